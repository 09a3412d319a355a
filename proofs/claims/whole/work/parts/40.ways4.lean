/-! way, trapped -/
theorem wz_thrown {y z : RT} (h : wz y z) : q_m_thrown z = q_m_thrown y ∧ q_m_least z = q_m_least y ∧ q_m_rooms z = q_m_rooms y := by
  obtain ⟨w, n, rfl⟩ := h
  refine ⟨?_, ?_, ?_⟩ <;> simp only [qR_m_steps, qR_m_way]
theorem Rel.restart {y : ST} {t : RT} (h : Rel y t) (e s : Int32) : Rel (s_re (s_rs (s_rl y 0) s) e) (s_m_stairs (s_m_steps (s_m_end t e) 0) s) ∧ Rel (s_re (s_rs (s_rl y 0) s) e) (s_m_stairs (s_m_stairs (s_m_steps (s_m_end t e) 0) 0) s) := by
  obtain ⟨hE, hI, hM, hC⟩ := h
  obtain ⟨e_fl, e_kd, e_hz, e_rn, e_da, e_db, e_dk, e_dn, e_kh, e_rd, e_rl, e_rs, e_re, e_tl, e_tn, e_tr, e_tc, e_pa, e_pb, e_pn, e_pc, e_wx, e_wy, e_wz, e_wc, e_ld, e_lt⟩ := hE
  have h0 : 0 ≤ (0 : Int32).toInt ∧ (0 : Int32).toInt ≤ 40 := by decide
  refine ⟨⟨?_, ?_, ?_, ?_⟩, ⟨?_, ?_, ?_, ?_⟩⟩
  · simp only [RelE, qS_re, qS_rs, qS_rl, qR_m_stairs, qR_m_steps, qR_m_end, e_fl, e_kd, e_hz, e_rn, e_da, e_db, e_dk, e_dn, e_kh, e_rd, e_rl, e_rs, e_re, e_tl, e_tn, e_tr, e_tc, e_pa, e_pb, e_pn, e_pc, e_wx, e_wy, e_wz, e_wc, e_ld, e_lt, and_self]
  · simp only [RIn, qR_m_stairs, qR_m_steps, qR_m_end]
    exact ⟨hI.1, hI.2.1, hI.2.2.1, hI.2.2.2.1, hI.2.2.2.2.1, h0, hI.2.2.2.2.2.2⟩
  · simp only [RM, qR_m_stairs, qR_m_steps, qR_m_end]; exact hM
  · simp only [RelC, qS_re, qS_rs, qS_rl, qR_m_stairs, qR_m_steps, qR_m_end]; exact hC
  · simp only [RelE, qS_re, qS_rs, qS_rl, qR_m_stairs, qR_m_steps, qR_m_end, e_fl, e_kd, e_hz, e_rn, e_da, e_db, e_dk, e_dn, e_kh, e_rd, e_rl, e_rs, e_re, e_tl, e_tn, e_tr, e_tc, e_pa, e_pb, e_pn, e_pc, e_wx, e_wy, e_wz, e_wc, e_ld, e_lt, and_self]
  · simp only [RIn, qR_m_stairs, qR_m_steps, qR_m_end]
    exact ⟨hI.1, hI.2.1, hI.2.2.1, hI.2.2.2.1, hI.2.2.2.2.1, h0, hI.2.2.2.2.2.2⟩
  · simp only [RM, qR_m_stairs, qR_m_steps, qR_m_end]; exact hM
  · simp only [RelC, qS_re, qS_rs, qS_rl, qR_m_stairs, qR_m_steps, qR_m_end]; exact hC
theorem tell_pos {y : ST} {t : RT} (h : Rel y t) (hT : TW (q_co y) (q_m_least t)) {r a2 a3 : Int32} (h0 : (q_co y r.toNatClampNeg).toInt = 0) (hb : ∀ j : Nat, j < 40 → 0 ≤ (q_m_least t j).toInt ∧ (q_m_least t j).toInt ≤ 100000000) (hp : prR t r) (hr : 0 ≤ r.toInt ∧ r.toInt < (q_m_rooms t).toInt) {e : Int32} (he : 0 ≤ e.toInt ∧ e.toInt < (q_m_rooms t).toInt ∧ (q_m_least t e.toNatClampNeg).toInt < 100000000) (s : Int32) (hs : s = f_Search_stairsTo y e) :
    Rel (g_Search_tellWayTo y e).2 (L_Mod_way r a2 a3 40 e (s_m_stairs (s_m_stairs (s_m_steps (s_m_end t e) 0) 0) s)).2 ∧ f_Search_metresTo (g_Search_tellWayTo y e).2 e = (L_Mod_way r a2 a3 40 e (s_m_stairs (s_m_stairs (s_m_steps (s_m_end t e) 0) 0) s)).1 ∧ q_m_thrown (L_Mod_way r a2 a3 40 e (s_m_stairs (s_m_stairs (s_m_steps (s_m_end t e) 0) 0) s)).2 = q_m_thrown t := by
  have hR := (h.restart e s).2
  have k1 : q_m_least (s_m_stairs (s_m_stairs (s_m_steps (s_m_end t e) 0) 0) s) = q_m_least t ∧ q_m_rooms (s_m_stairs (s_m_stairs (s_m_steps (s_m_end t e) 0) 0) s) = q_m_rooms t ∧ q_m_end (s_m_stairs (s_m_stairs (s_m_steps (s_m_end t e) 0) 0) s) = e ∧ q_m_steps (s_m_stairs (s_m_stairs (s_m_steps (s_m_end t e) 0) 0) s) = 0 ∧ q_m_thrown (s_m_stairs (s_m_stairs (s_m_steps (s_m_end t e) 0) 0) s) = q_m_thrown t := by
    refine ⟨?_, ?_, ?_, ?_, ?_⟩ <;> simp only [qR_m_stairs, qR_m_steps, qR_m_end]
  have k2 : q_co (s_re (s_rs (s_rl y 0) s) e) = q_co y ∧ q_rl (s_re (s_rs (s_rl y 0) s) e) = 0 := by
    constructor <;> simp only [qS_re, qS_rs, qS_rl]
  have hp4 := pr_stairs (v := s) (pr_stairs (v := 0) (pr_steps (v := 0) (pr_end (v := e) hp)))
  have hM4 := rm_stairs (v := s) (rm_stairs (v := 0) (rm_steps (v := 0) (rm_end (v := e) h.2.2.1)))
  have hI4 := ri_stairs (v := s) (ri_stairs (v := 0) (ri_steps (ri_end (v := e) h.2.1)))
  have hw := wv_0 (y := t) (e := e) h.2.1 ⟨k1.1, k1.2.1, k1.2.2.1, k1.2.2.2.1⟩ he
  have eT : (g_Search_tellWayTo y e).2 = (L_Search_tellWayTo e 41 e 0 (s_re (s_rs (s_rl y 0) s) e)).2 := by rw [hs]; rfl
  rw [eT]
  generalize s_m_stairs (s_m_stairs (s_m_steps (s_m_end t e) 0) 0) s = t4 at *
  generalize s_re (s_rs (s_rl y 0) s) e = y3 at *
  obtain ⟨j1, j2, j3, j4, j5⟩ := k1
  rw [j3] at hw
  obtain ⟨q1, q2, q3, q4⟩ := way_L (r := r) (a2 := a2) (a3 := a3) (a1 := e) (t0 := t4) hM4 hI4 (by rw [j1]; exact hb) hp4 (by rw [j2]; exact hr) 40 41 e 0 y3 t4 hR (wz_rf t4) (by rw [k2.1, j1]; exact hT) (by rw [k2.1]; exact h0) hw k2.2.symm (by omega)
  obtain ⟨v1, v2, v3⟩ := wz_thrown q3
  refine ⟨q1, ?_, by rw [v1, j5]⟩
  have hTT : TW (q_co (L_Search_tellWayTo e 41 e 0 y3).2) (q_m_least (L_Mod_way r a2 a3 40 e t4).2) := by rw [q2, k2.1, v2, j1]; exact hT
  rw [(metresC q1 hTT (by rw [v2, v3, j1, j2]; exact he)).1, q4, v2, j1, j3]
set_option maxHeartbeats 1000000 in
theorem R_way {x : ST} {z : RT} (h : Rel x z) (a1 a2 a3 : Int32) : RG (hv_way x a1 a2 a3) (hs_way x a1 a2 a3) (g_Mod_way z a1 a2 a3) (k_Plan_way x a1 a2 a3 = 0 → (g_Plan_way x a1 a2 a3).1 = (g_Mod_way z a1 a2 a3).1) := by
  by_cases c1 : f_Mod_isRoom z a1 = 0
  · have hk : k_Plan_way x a1 a2 a3 = 1 := by simp only [k_Plan_way, w_room h, w_kind, w_in, c1, ↓reduceIte, n10]
    have e : g_Mod_way z a1 a2 a3 = (0, s_m_thrown z 1) := by simp only [g_Mod_way, c1, ↓reduceIte, thw1, i10]
    have hv : hv_way x a1 a2 a3 = 1 := by simp only [hv_way, hk, ↓reduceIte, n10]
    have hs : hs_way x a1 a2 a3 = x := by simp only [hs_way, hk, ↓reduceIte, n10]
    rw [hv, hs]
    exact RG.thrown h _ e (fun hq => absurd (hk.symm.trans hq) (by decide))
  by_cases c2 : f_Mod_in a2 0 2 = 0
  · have hk : k_Plan_way x a1 a2 a3 = 1 := by simp only [k_Plan_way, w_room h, w_kind, w_in, c1, c2, ↓reduceIte, n10]
    have e : g_Mod_way z a1 a2 a3 = (0, s_m_thrown z 1) := by simp only [g_Mod_way, c1, c2, ↓reduceIte, thw1, i10]
    have hv : hv_way x a1 a2 a3 = 1 := by simp only [hv_way, hk, ↓reduceIte, n10]
    have hs : hs_way x a1 a2 a3 = x := by simp only [hs_way, hk, ↓reduceIte, n10]
    rw [hv, hs]
    exact RG.thrown h _ e (fun hq => absurd (hk.symm.trans hq) (by decide))
  by_cases c3 : f_Mod_in a3 0 255 = 0
  · have hk : k_Plan_way x a1 a2 a3 = 2 := by simp only [k_Plan_way, w_room h, w_kind, w_in, c1, c2, c3, ↓reduceIte, n20]
    have e : g_Mod_way z a1 a2 a3 = (0, s_m_thrown z 2) := by simp only [g_Mod_way, c1, c2, c3, ↓reduceIte, thw2, i10]
    have hv : hv_way x a1 a2 a3 = 2 := by simp only [hv_way, hk, ↓reduceIte, n20, n21]
    have hs : hs_way x a1 a2 a3 = x := by simp only [hs_way, hk, ↓reduceIte, n20]
    rw [hv, hs]
    exact RG.thrown h _ e (fun hq => absurd (hk.symm.trans hq) (by decide))
  have hk : k_Plan_way x a1 a2 a3 = 0 := by simp only [k_Plan_way, w_room h, w_kind, w_in, c1, c2, c3, ↓reduceIte]
  have hv : hv_way x a1 a2 a3 = 0 := by simp only [hv_way, hk, ↓reduceIte]
  have hr := (isR_iff h.2.1 a1).mp c1
  obtain ⟨b1, b2, b3, b4, b5⟩ := both (h.thr 0) a1 a3 hr
  have eth : q_m_thrown (g_Mod_reckon (s_m_thrown z 0) a1 a3).2 = 0 ∧ q_m_rooms (g_Mod_reckon (s_m_thrown z 0) a1 a3).2 = q_m_rooms z := by
    obtain ⟨f, hf⟩ := b4.1
    rw [hf]; exact ⟨rfl, rfl⟩
  have eM : g_Mod_way z a1 a2 a3 = if 0 ≤ f_Mod_nearest (g_Mod_reckon (s_m_thrown z 0) a1 a3).2 a2 then L_Mod_way a1 a2 a3 40 (f_Mod_nearest (g_Mod_reckon (s_m_thrown z 0) a1 a3).2 a2) (s_m_stairs (s_m_stairs (s_m_steps (s_m_end (g_Mod_reckon (s_m_thrown z 0) a1 a3).2 (f_Mod_nearest (g_Mod_reckon (s_m_thrown z 0) a1 a3).2 a2)) 0) 0) (q_m_least (g_Mod_reckon (s_m_thrown z 0) a1 a3).2 (f_Mod_nearest (g_Mod_reckon (s_m_thrown z 0) a1 a3).2 a2).toNatClampNeg - q_m_least (g_Mod_reckon (s_m_thrown z 0) a1 a3).2 (f_Mod_nearest (g_Mod_reckon (s_m_thrown z 0) a1 a3).2 a2).toNatClampNeg / 100 * 100)) else ((-1), s_m_stairs (s_m_steps (s_m_end (g_Mod_reckon (s_m_thrown z 0) a1 a3).2 (f_Mod_nearest (g_Mod_reckon (s_m_thrown z 0) a1 a3).2 a2)) 0) 0) := by
    simp only [g_Mod_way, c1, c2, c3, ↓reduceIte, thw0, qR_m_stairs, qR_m_steps, qR_m_end]
  have eC : g_Plan_way x a1 a2 a3 = (f_Search_metresTo (g_Search_tellWayTo (g_Search_spreadFromRoom x a1 a3).2 (f_Search_nearestOf (g_Search_spreadFromRoom x a1 a3).2 a2)).2 (f_Search_nearestOf (g_Search_spreadFromRoom x a1 a3).2 a2), (g_Search_tellWayTo (g_Search_spreadFromRoom x a1 a3).2 (f_Search_nearestOf (g_Search_spreadFromRoom x a1 a3).2 a2)).2) := by
    simp only [g_Plan_way, w_room h, w_kind, w_in, c1, c2, c3, ↓reduceIte]
  have hs : hs_way x a1 a2 a3 = (g_Plan_way x a1 a2 a3).2 := by simp only [hs_way, hk, ↓reduceIte]
  rw [hv, hs, eM, eC, near_eq b1 b2 a2]
  have hls := b4.2
  generalize (g_Mod_reckon (s_m_thrown z 0) a1 a3).2 = t2 at *
  generalize (g_Search_spreadFromRoom x a1 a3).2 = y2 at *
  by_cases c4 : 0 ≤ f_Mod_nearest t2 a2
  · have he := nr_pos b1.2.1 c4
    rw [if_pos c4]
    obtain ⟨u1, u2, u3⟩ := tell_pos (r := a1) (a2 := a2) (a3 := a3) b1 b2 b3 hls b5 (by rw [eth.2]; exact hr) he _ (metresC b1 b2 he).2.1.symm
    exact ⟨by rw [u3]; exact eth.1, fun _ => u2, u1⟩
  · rw [if_neg c4, nr_neg b1.2.1 c4]
    have hR := (b1.restart (-1) 0).1
    have eT : (g_Search_tellWayTo y2 (-1)).2 = s_re (s_rs (s_rl y2 0) 0) (-1) := by
      show (L_Search_tellWayTo (-1) 41 (-1) 0 (s_re (s_rs (s_rl y2 0) (f_Search_stairsTo y2 (-1))) (-1))).2 = _
      rw [(m1neg b1).2, L_Search_tellWayTo_s, if_neg (by decide), reach_neg hR, if_pos rfl]
    rw [eT]
    refine ⟨?_, fun _ => (m1neg hR).1, hR⟩
    show q_m_thrown (s_m_stairs (s_m_steps (s_m_end t2 (-1)) 0) 0) = 0
    simp only [qR_m_stairs, qR_m_steps, qR_m_end]
    exact eth.1
/-! walks both ways -/
section RV
variable {E : Nat → Nat → Nat → Prop} {w : Nat → Nat} {src : Nat → Prop}
theorem wk_cons {a u i : Nat} (hE : E i a u) : ∀ (k v c : Nat), wy_k E w (fun x => x = u) k v c → wy_k E w (fun x => x = a) (k + 1) v (c + w i) := by
  intro k
  induction k with
  | zero =>
    intro v c h
    obtain ⟨h1, h2⟩ := h
    subst h1
    exact ⟨a, i, 0, ⟨rfl, rfl⟩, hE, by omega⟩
  | succ k ih =>
    intro v c h
    obtain ⟨p, j, c', h1, h2, h3⟩ := h
    exact ⟨p, j, c' + w i, ih p c' h1, h2, by omega⟩
theorem wk_rev (hS : ∀ i u v, E i u v → E i v u) {a : Nat} : ∀ (k v c : Nat), wy_k E w (fun x => x = a) k v c → wy_k E w (fun x => x = v) k a c := by
  intro k
  induction k with
  | zero => intro v c h; exact ⟨h.1.symm, h.2⟩
  | succ k ih =>
    intro v c h
    obtain ⟨u, i, c', h1, h2, h3⟩ := h
    rw [h3]
    exact wk_cons (hS i u v h2) k a c' (ih u c' h1)
theorem wk_mono {src' : Nat → Prop} (hs : ∀ v, src v → src' v) : ∀ (k v c : Nat), wy_k E w src k v c → wy_k E w src' k v c := by
  intro k
  induction k with
  | zero => intro v c h; exact ⟨hs v h.1, h.2⟩
  | succ k ih =>
    intro v c h
    obtain ⟨u, i, c', h1, h2, h3⟩ := h
    exact ⟨u, i, c', ih u c' h1, h2, h3⟩
theorem wk_src : ∀ (k v c : Nat), wy_k E w src k v c → ∃ a, src a ∧ wy_k E w (fun x => x = a) k v c := by
  intro k
  induction k with
  | zero => intro v c h; exact ⟨v, h.1, rfl, h.2⟩
  | succ k ih =>
    intro v c h
    obtain ⟨u, i, c', h1, h2, h3⟩ := h
    obtain ⟨a, ha, h4⟩ := ih u c' h1
    exact ⟨a, ha, u, i, c', h4, h2, h3⟩
end RV
theorem ER_sym (z : RT) : ∀ i u v, ER z 0 i u v → ER z 0 i v u := by
  intro i u v h
  obtain ⟨h1, h2, h3, -⟩ := h
  refine ⟨h1, h2, ?_, Int32.and_zero⟩
  rcases h3 with ⟨a, b⟩ | ⟨a, b⟩
  · exact Or.inr ⟨b, a⟩
  · exact Or.inl ⟨b, a⟩
def nrGood (t : RT) (a : Int32) (v : Int32) : Prop := 0 ≤ v.toInt ∧ v.toInt < (q_m_rooms t).toInt ∧ q_m_kind t v.toNatClampNeg = a ∧ (q_m_least t v.toNatClampNeg).toInt < 100000000
theorem nr_K {t : RT} (hI : RIn t) (a : Int32) : ∀ (k : Nat) (bst i : Int32), (0 ≤ i.toInt ∧ i.toInt ≤ (q_m_rooms t).toInt ∧ (q_m_rooms t).toInt - i.toInt < (k : Int)) → (L_Mod_nearest t a k bst i = bst ∨ nrGood t a (L_Mod_nearest t a k bst i)) ∧ ((0 ≤ bst.toInt ∨ ∃ v : Int32, i.toInt ≤ v.toInt ∧ nrGood t a v) → 0 ≤ (L_Mod_nearest t a k bst i).toInt) := by
  intro k
  induction k with
  | zero => intro bst i hi; exact absurd hi.2.2 (by have := hi.2.1; omega)
  | succ k ih =>
    intro bst i hi
    rw [L_Mod_nearest_s]
    by_cases c1 : q_m_rooms t ≤ i
    · rw [if_pos c1]
      refine ⟨Or.inl rfl, fun q => ?_⟩
      rw [Int32.le_iff_toInt_le] at c1
      rcases q with q | ⟨v, q1, q2⟩
      · exact q
      · have := q2.2.1; omega
    rw [if_neg c1]
    have hn := lp_inc hi c1 (N := 40) hI.1.2 (by decide)
    have hi1 : (i + 1).toInt = i.toInt + 1 := inc1 (by have := hI.1; omega)
    have hlt : i.toInt < (q_m_rooms t).toInt := by rw [Int32.le_iff_toInt_le] at c1; omega
    have skip : ¬ nrGood t a i ∨ 0 ≤ bst.toInt → (L_Mod_nearest t a k bst (i + 1) = bst ∨ nrGood t a (L_Mod_nearest t a k bst (i + 1))) ∧ ((0 ≤ bst.toInt ∨ ∃ v : Int32, i.toInt ≤ v.toInt ∧ nrGood t a v) → 0 ≤ (L_Mod_nearest t a k bst (i + 1)).toInt) := by
      intro hg
      obtain ⟨p1, p2⟩ := ih bst (i + 1) hn
      refine ⟨p1, fun q => p2 ?_⟩
      rcases q with q | ⟨v, q1, q2⟩
      · exact Or.inl q
      · rcases hg with hg | hg
        · refine Or.inr ⟨v, ?_, q2⟩
          have : v.toInt ≠ i.toInt := fun e => hg (by rw [← Int32.toInt_inj.mp e]; exact q2)
          omega
        · exact Or.inl hg
    have take : nrGood t a i → (L_Mod_nearest t a k i (i + 1) = bst ∨ nrGood t a (L_Mod_nearest t a k i (i + 1))) ∧ ((0 ≤ bst.toInt ∨ ∃ v : Int32, i.toInt ≤ v.toInt ∧ nrGood t a v) → 0 ≤ (L_Mod_nearest t a k i (i + 1)).toInt) := by
      intro hg
      obtain ⟨p1, p2⟩ := ih i (i + 1) hn
      refine ⟨?_, fun _ => p2 (Or.inl hi.1)⟩
      rcases p1 with p1 | p1
      · exact Or.inr (by rw [p1]; exact hg)
      · exact Or.inr p1
    by_cases c2 : q_m_kind t i.toNatClampNeg = a
    · rw [if_pos c2]
      by_cases c3 : 100000000 ≤ q_m_least t i.toNatClampNeg
      · rw [if_pos c3]
        rw [Int32.le_iff_toInt_le, show (100000000 : Int32).toInt = 100000000 from rfl] at c3
        exact skip (Or.inl (fun q => by have := q.2.2.2; omega))
      rw [if_neg c3]
      rw [Int32.le_iff_toInt_le, show (100000000 : Int32).toInt = 100000000 from rfl] at c3
      have hg : nrGood t a i := ⟨hi.1, hlt, c2, by omega⟩
      by_cases c4 : bst < 0
      · rw [if_pos c4]; exact take hg
      · rw [if_neg c4]
        rw [Int32.lt_iff_toInt_lt, show (0 : Int32).toInt = 0 from rfl] at c4
        split
        · exact skip (Or.inr (by omega))
        · exact take hg
    · rw [if_neg c2]; exact skip (Or.inl (fun q => c2 q.2.2.1))
theorem near_iff {t : RT} (hI : RIn t) (a : Int32) : 0 ≤ f_Mod_nearest t a ↔ ∃ v, nrGood t a v := by
  obtain ⟨p1, p2⟩ := nr_K hI a 41 (-1) 0 (lp_0 (N := 40) hI.1 (by decide))
  rw [Int32.le_iff_toInt_le, show (0 : Int32).toInt = 0 from rfl]
  refine ⟨fun q => ?_, fun q => p2 (Or.inr ?_)⟩
  · rcases p1 with p1 | p1
    · have p1 : f_Mod_nearest t a = -1 := p1
      rw [p1] at q; exact absurd q (by decide)
    · exact ⟨_, p1⟩
  · obtain ⟨v, hv⟩ := q
    exact ⟨v, hv.1, hv⟩
theorem trap_iff {x : ST} {z : RT} (h : Rel x z) {y : ST} (hy : Rel y z) (hb : cb y) (hS : SV (ER z 0) (WC z) (srcK z 2) INFn (lfn INFn (q_co y))) {t : RT} (ht : ls0 z t) {i : Int32} (hi : 0 ≤ i.toInt ∧ i.toInt < (q_m_rooms z).toInt) : f_Search_isReached y i = 0 ↔ ¬ 2 ≤ q_m_kind (g_Mod_reckon t i 0).2 i.toNatClampNeg ∧ ¬ 0 ≤ f_Mod_nearest (g_Mod_reckon t i 0).2 2 := by
  have hIt := ls0_in ht h.2.1
  have hMt := ls0_M ht h.2.2.1
  have hrt : q_m_rooms t = q_m_rooms z := by obtain ⟨f, rfl⟩ := ht; rfl
  have hkt : q_m_kind t = q_m_kind z := by obtain ⟨f, rfl⟩ := ht; rfl
  have hix := rk_ix h.2.1 hi
  have hi40 := vp_lt hix
  have hci := cl_nn hi.1
  have hR := rk_SV t i 0 hIt hMt hix
  obtain ⟨k1, -, -⟩ := rk_spec t i 0 hIt hMt hix
  rw [(ER_ls ht 0).1, (ER_ls ht 0).2] at hR
  have hr2 : q_m_rooms (g_Mod_reckon t i 0).2 = q_m_rooms z := by obtain ⟨f, hf⟩ := k1.1; rw [hf, ← hrt]; rfl
  have hk2 : q_m_kind (g_Mod_reckon t i 0).2 = q_m_kind z := by obtain ⟨f, hf⟩ := k1.1; rw [hf, ← hkt]; rfl
  have hI2 := ls0_in k1.1 hIt
  have hw : ∀ i, WC z i = 64 * (fun i => (q_m_metres z i).toInt.toNat) i + stR (q_m_floor z) (q_m_from z) (q_m_to z) i := fun i => rfl
  have hw' : ∀ i, WR z i = 100 * (fun i => (q_m_metres z i).toInt.toNat) i + stR (q_m_floor z) (q_m_from z) (q_m_to z) i := fun i => rfl
  rw [reachC hy hi, hk2, near_iff hI2]
  have eI : lfn INFn (q_co y) i.toNatClampNeg = (q_co y i.toNatClampNeg).toInt.toNat := if_pos hi40
  have hbi := hb _ hi40
  have hkd := h.2.2.2.2.2.1 i.toNatClampNeg (by omega)
  have hrm := h.2.1.1
  have key : q_co y i.toNatClampNeg = 1000000000 ↔ ∀ k c, ¬ wy_k (ER z 0) (WC z) (srcK z 2) k i.toNatClampNeg c := by
    rcases hS _ hi40 with ⟨p1, p2⟩ | ⟨p1, p2⟩
    · refine ⟨fun q => ?_, fun q => ?_⟩
      · rw [eI, q] at p1
        exact absurd p1 (by decide)
      · obtain ⟨⟨k, hk⟩, -⟩ := p2
        exact absurd hk (q k _)
    · refine ⟨fun _ => p2, fun _ => Int32.toInt_inj.mp ?_⟩
      rw [eI] at p1
      unfold INFn at p1
      rw [show (1000000000 : Int32).toInt = 1000000000 from rfl]
      omega
  rw [key]
  refine ⟨fun hno => ⟨fun q => ?_, fun q => ?_⟩, fun ⟨q1, q2⟩ k c hk => ?_⟩
  · rw [Int32.le_iff_toInt_le, show (2 : Int32).toInt = 2 from rfl] at q
    exact hno 0 0 ⟨⟨by omega, Int32.toInt_inj.mp (by rw [show (2 : Int32).toInt = 2 from rfl]; omega)⟩, rfl⟩
  · obtain ⟨v, v1, v2, v3, v4⟩ := q
    rw [hr2] at v2
    rw [hk2] at v3
    have hcv := cl_nn v1
    have hv40 : v.toNatClampNeg < 40 := by omega
    have hbv := k1.2 _ hv40
    have eV : lfn FARn (q_m_least (g_Mod_reckon t i 0).2) v.toNatClampNeg = (q_m_least (g_Mod_reckon t i 0).2 v.toNatClampNeg).toInt.toNat := if_pos hv40
    rcases hR _ hv40 with ⟨p1, p2⟩ | ⟨p1, -⟩
    · obtain ⟨⟨k, hk⟩, -⟩ := p2
      obtain ⟨c', hc'⟩ := wk_any hw' hw hk
      exact hno k c' (wk_mono (fun a ha => by rw [ha]; exact ⟨by omega, v3⟩) k _ c' (wk_rev (ER_sym z) k _ c' hc'))
    · rw [eV] at p1
      unfold FARn at p1
      omega
  · obtain ⟨a, ha, hk2'⟩ := wk_src k _ c hk
    obtain ⟨c', hc'⟩ := wk_any hw hw' (wk_rev (ER_sym z) k _ c hk2')
    have ha1 := ha.1
    have ha40 : a < 40 := by omega
    have e1 := ofNat_toInt (n := a) (by omega)
    have e2 := clN (n := a) (by omega)
    have hba := k1.2 _ ha40
    have eV : lfn FARn (q_m_least (g_Mod_reckon t i 0).2) a = (q_m_least (g_Mod_reckon t i 0).2 a).toInt.toNat := if_pos ha40
    rcases hR a ha40 with ⟨p1, p2⟩ | ⟨p1, p2⟩
    · refine q2 ⟨Int32.ofNat a, by omega, by rw [hr2]; omega, by rw [hk2, e2]; exact ha.2, ?_⟩
      rw [e2]
      rw [eV] at p1
      unfold FARn at p1
      omega
    · exact p2 k c' hc'
theorem trap_L {x : ST} {z : RT} (h : Rel x z) {y : ST} (hy : Rel y z) (hb : cb y) (hS : SV (ER z 0) (WC z) (srcK z 2) INFn (lfn INFn (q_co y))) (a : Int32) : ∀ (k : Nat) (lft i : Int32) (t : RT), (0 ≤ i.toInt ∧ i.toInt ≤ (q_m_rooms z).toInt ∧ (q_m_rooms z).toInt - i.toInt < (k : Int)) → ls0 z t → (L_Mod_trapped a k lft i t).1 = L_Search_unreachedAt y a k lft i ∧ ls0 z (L_Mod_trapped a k lft i t).2 := by
  intro k
  induction k with
  | zero => intro lft i t hi; exact absurd hi.2.2 (by have := hi.2.1; omega)
  | succ k ih =>
    intro lft i t hi ht
    have hrn : q_rn y = q_m_rooms z := hy.1.2.2.2.1
    have hrt : q_m_rooms t = q_m_rooms z := by obtain ⟨f, rfl⟩ := ht; rfl
    have E1 : L_Search_unreachedAt y a (k + 1) lft i = if (q_m_rooms z) ≤ i then (-1) else (if (f_Search_isReached y i) = 0 then (if lft = 0 then i else L_Search_unreachedAt y a k (lft + (-1)) (i + 1)) else L_Search_unreachedAt y a k lft (i + 1)) := by rw [← hrn]; rfl
    rw [E1, L_Mod_trapped_s, hrt]
    by_cases c1 : q_m_rooms z ≤ i
    · rw [if_pos c1, if_pos c1]; exact ⟨rfl, ht⟩
    rw [if_neg c1, if_neg c1]
    have hn := lp_inc hi c1 (N := 40) h.2.1.1.2 (by decide)
    have hir : 0 ≤ i.toInt ∧ i.toInt < (q_m_rooms z).toInt := ⟨hi.1, by rw [Int32.le_iff_toInt_le] at c1; omega⟩
    have hti := trap_iff h hy hb hS ht hir
    have hIt := ls0_in ht h.2.1
    have hMt := ls0_M ht h.2.2.1
    obtain ⟨k1, -, -⟩ := rk_spec t i 0 hIt hMt (rk_ix h.2.1 hir)
    have ht2 : ls0 z (g_Mod_reckon t i 0).2 := by
      obtain ⟨f, hf⟩ := k1.1
      obtain ⟨f0, hf0⟩ := ht
      rw [hf, hf0]
      exact ⟨f, rfl⟩
    by_cases c2 : f_Search_isReached y i = 0
    · obtain ⟨g1, g2⟩ := hti.mp c2
      rw [if_pos c2, if_neg g1, if_neg g2]
      by_cases c3 : lft = 0
      · rw [if_pos c3, if_pos c3]; exact ⟨rfl, ht2⟩
      · rw [if_neg c3, if_neg c3]; exact ih _ _ _ hn ht2
    · rw [if_neg c2]
      by_cases g1 : 2 ≤ q_m_kind (g_Mod_reckon t i 0).2 i.toNatClampNeg
      · rw [if_pos g1]; exact ih _ _ _ hn ht2
      · rw [if_neg g1, if_pos (Classical.not_not.mp (fun g2 => c2 (hti.mpr ⟨g1, g2⟩)))]
        exact ih _ _ _ hn ht2
set_option maxHeartbeats 1000000 in
theorem R_trapped {x : ST} {z : RT} (h : Rel x z) (a1 : Int32) : RG (hv_trapped x a1) (hs_trapped x a1) (g_Mod_trapped z a1) (k_Plan_trapped x a1 = 0 → (g_Plan_trapped x a1).1 = (g_Mod_trapped z a1).1) := by
  by_cases c1 : 0 ≤ a1
  · have hk : k_Plan_trapped x a1 = 0 := by simp only [k_Plan_trapped, k_Plan_wantNotBelowZero, c1, ↓reduceIte]
    have hv : hv_trapped x a1 = 0 := by simp only [hv_trapped, hk, ↓reduceIte]
    have hs : hs_trapped x a1 = (g_Plan_trapped x a1).2 := by simp only [hs_trapped, hk, ↓reduceIte]
    have eC : g_Plan_trapped x a1 = (f_Search_unreachedAt (g_Search_spreadFromKind x 2).2 a1, (g_Search_spreadFromKind x 2).2) := by
      simp only [g_Plan_trapped, k_Plan_wantNotBelowZero, c1, ↓reduceIte]
    have eM : g_Mod_trapped z a1 = L_Mod_trapped a1 41 a1 0 (s_m_thrown z 0) := by
      simp only [g_Mod_trapped, c1, ↓reduceIte, thw0]
    have hz := h.thr 0
    obtain ⟨q1, q2, q3⟩ := fromKind hz 2
    obtain ⟨p1, p2⟩ := trap_L hz q1 q2 q3 a1 41 a1 0 (s_m_thrown z 0) (lp_0 (N := 40) h.2.1.1 (by decide)) (ls0_rf _)
    rw [hv, hs, eC, eM]
    clear eC eM hv hs
    generalize (g_Search_spreadFromKind x 2).2 = Y at *
    generalize L_Mod_trapped a1 41 a1 0 (s_m_thrown z 0) = P at *
    have eU : f_Search_unreachedAt Y a1 = L_Search_unreachedAt Y a1 41 a1 0 := by unfold f_Search_unreachedAt; rfl
    rw [eU, ← p1]
    refine ⟨?_, fun _ => rfl, ?_⟩
    · obtain ⟨f, hf⟩ := p2
      rw [hf]; rfl
    · obtain ⟨f, hf⟩ := p2
      rw [hf]
      exact q1.least f
  · have hk : k_Plan_trapped x a1 = 2 := by simp only [k_Plan_trapped, k_Plan_wantNotBelowZero, c1, ↓reduceIte, n20]
    have e : g_Mod_trapped z a1 = (0, s_m_thrown z 1) := by simp only [g_Mod_trapped, c1, ↓reduceIte, thw1, i10]
    have hv : hv_trapped x a1 = 1 := by simp only [hv_trapped, hk, ↓reduceIte, n20]
    have hs : hs_trapped x a1 = x := by simp only [hs_trapped, hk, ↓reduceIte, n20]
    rw [hv, hs]
    exact RG.thrown h _ e (fun hq => absurd (hk.symm.trans hq) (by decide))
