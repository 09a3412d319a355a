/-! one least way, two costs -/
def wy_p (E : Nat → Nat → Nat → Prop) (m s : Nat → Nat) (src : Nat → Prop) : Nat → Nat → Nat → Nat → Prop
  | 0, v, M, S => src v ∧ M = 0 ∧ S = 0
  | k + 1, v, M, S => ∃ u i M' S', wy_p E m s src k u M' S' ∧ E i u v ∧ M = M' + m i ∧ S = S' + s i
section WP
variable {E : Nat → Nat → Nat → Prop} {w m s : Nat → Nat} {src : Nat → Prop}
theorem wp_of {a : Nat} (hw : ∀ i, w i = a * m i + s i) : ∀ (k v c : Nat), wy_k E w src k v c → ∃ M S, wy_p E m s src k v M S ∧ c = a * M + S := by
  intro k
  induction k with
  | zero => intro v c h; exact ⟨0, 0, ⟨h.1, rfl, rfl⟩, by rw [h.2]; omega⟩
  | succ k ih =>
    intro v c h
    obtain ⟨u, i, c', h1, h2, h3⟩ := h
    obtain ⟨M, S, h4, h5⟩ := ih u c' h1
    refine ⟨M + m i, S + s i, ⟨u, i, M, S, h4, h2, rfl, rfl⟩, ?_⟩
    rw [h3, h5, hw, Nat.mul_add]; omega
theorem wp_to {a : Nat} (hw : ∀ i, w i = a * m i + s i) : ∀ (k v M S : Nat), wy_p E m s src k v M S → wy_k E w src k v (a * M + S) := by
  intro k
  induction k with
  | zero => intro v M S h; obtain ⟨h1, h2, h3⟩ := h; exact ⟨h1, by rw [h2, h3]; omega⟩
  | succ k ih =>
    intro v M S h
    obtain ⟨u, i, M', S', h1, h2, h3, h4⟩ := h
    refine ⟨u, i, a * M' + S', ih u M' S' h1, h2, ?_⟩
    rw [h3, h4, hw, Nat.mul_add]; omega
theorem wp_le (hE : ∀ i u v, E i u v → s i ≤ 1 ∧ m i ≤ 500) : ∀ (k v M S : Nat), wy_p E m s src k v M S → S ≤ k ∧ M ≤ k * 500 := by
  intro k
  induction k with
  | zero => intro v M S h; obtain ⟨-, h2, h3⟩ := h; omega
  | succ k ih =>
    intro v M S h
    obtain ⟨u, i, M', S', h1, h2, h3, h4⟩ := h
    have := ih u M' S' h1
    have := hE i u v h2
    omega
theorem wy_short {n : Nat} (hE : ∀ i u v, E i u v → u < n ∧ 0 < w i) : ∀ (t v c : Nat), wy_d E w src v c → wy_r E w src n c ≤ t → ∃ k, k ≤ t ∧ wy_k E w src k v c := by
  intro t
  induction t with
  | zero =>
    intro v c h ht
    rcases wy_pre h with ⟨h0, h1⟩ | ⟨u, i, c', h1, h2, h3⟩
    · exact ⟨0, Nat.le_refl _, h0, h1⟩
    · have h4 := hE i u v h2
      have h5 := wy_r_lt h4.1 h1 (show c' < c by omega)
      omega
  | succ t ih =>
    intro v c h ht
    rcases wy_pre h with ⟨h0, h1⟩ | ⟨u, i, c', h1, h2, h3⟩
    · exact ⟨0, Nat.zero_le _, h0, h1⟩
    · have h4 := hE i u v h2
      have h5 := wy_r_lt h4.1 h1 (show c' < c by omega)
      obtain ⟨k, hk, h6⟩ := ih u c' h1 (by omega)
      exact ⟨k + 1, by omega, u, i, c', h6, h2, h3⟩
theorem wy_two {w' : Nat → Nat} (hw : ∀ i, w i = 64 * m i + s i) (hw' : ∀ i, w' i = 100 * m i + s i) (hE : ∀ i u v, E i u v → u < 40 ∧ 0 < m i ∧ m i ≤ 500 ∧ s i ≤ 1) {v c c' : Nat} (hv : v < 40) (h : wy_d E w src v c) (h' : wy_d E w' src v c') : ∃ M S, S < 40 ∧ M ≤ 19500 ∧ c = 64 * M + S ∧ c' = 100 * M + S := by
  have hb := fun i u v hq => (show s i ≤ 1 ∧ m i ≤ 500 from ⟨(hE i u v hq).2.2.2, (hE i u v hq).2.2.1⟩)
  obtain ⟨k, hk, h1⟩ := wy_short (n := 40) (fun i u v hq => ⟨(hE i u v hq).1, by rw [hw]; have := (hE i u v hq).2.1; omega⟩) _ v c h (Nat.le_refl _)
  obtain ⟨k', hk', h1'⟩ := wy_short (n := 40) (fun i u v hq => ⟨(hE i u v hq).1, by rw [hw']; have := (hE i u v hq).2.1; omega⟩) _ v c' h' (Nat.le_refl _)
  have r1 := wy_r_top hv h
  have r2 := wy_r_top hv h'
  obtain ⟨M, S, p1, p2⟩ := wp_of hw k v c h1
  obtain ⟨M', S', p1', p2'⟩ := wp_of hw' k' v c' h1'
  have b1 := wp_le hb k v M S p1
  have b2 := wp_le hb k' v M' S' p1'
  have l1 := h'.2 k _ (wp_to hw' k v M S p1)
  have l2 := h.2 k' _ (wp_to hw k' v M' S' p1')
  have eM : M = M' := by omega
  have eS : S = S' := by omega
  exact ⟨M, S, by omega, by omega, p2, by rw [eM, eS]; exact p2'⟩
theorem wk_any {w' : Nat → Nat} {a b : Nat} (hw : ∀ i, w i = a * m i + s i) (hw' : ∀ i, w' i = b * m i + s i) {k v c : Nat} (h : wy_k E w src k v c) : ∃ c', wy_k E w' src k v c' := by
  obtain ⟨M, S, p1, -⟩ := wp_of hw k v c h
  exact ⟨_, wp_to hw' k v M S p1⟩
end WP
/-- the class's row beside the reference's -/
def TW (c l : Nat → Int32) : Prop := ∀ v, v < 40 → ((c v).toInt = 1000000000 ∧ (l v).toInt = 100000000) ∨ ∃ M S : Nat, S < 40 ∧ M ≤ 19500 ∧ (c v).toInt = 64 * M + S ∧ (l v).toInt = 100 * M + S
theorem TW_of {z : RT} {av : Int32} {src : Nat → Prop} (hI : RIn z) (hM : RM z) {c l : Nat → Int32} (hc : ∀ j : Nat, j < 40 → 0 ≤ (c j).toInt) (hl : ∀ j : Nat, j < 40 → 0 ≤ (l j).toInt) (h1 : SV (ER z av) (WC z) src INFn (lfn INFn c)) (h2 : SV (ER z av) (WR z) src FARn (lfn FARn l)) : TW c l := by
  intro v hv
  have e1 : lfn INFn c v = (c v).toInt.toNat := if_pos hv
  have e2 : lfn FARn l v = (l v).toInt.toNat := if_pos hv
  have hcv := hc v hv
  have hlv := hl v hv
  have hw : ∀ i, WC z i = 64 * (fun i => (q_m_metres z i).toInt.toNat) i + stR (q_m_floor z) (q_m_from z) (q_m_to z) i := fun i => rfl
  have hw' : ∀ i, WR z i = 100 * (fun i => (q_m_metres z i).toInt.toNat) i + stR (q_m_floor z) (q_m_from z) (q_m_to z) i := fun i => rfl
  rcases h1 v hv with ⟨a1, a2⟩ | ⟨a1, a2⟩
  · rcases h2 v hv with ⟨b1, b2⟩ | ⟨b1, b2⟩
    · obtain ⟨M, S, q1, q2, q3, q4⟩ := wy_two hw hw' (fun i u v hE => ⟨(ER_in hI hM i u v hE).1, by have := hM i hE.1; show 0 < (q_m_metres z i).toInt.toNat; omega, by have := hM i hE.1; show (q_m_metres z i).toInt.toNat ≤ 500; omega, stR_le _ _ _ _⟩) hv a2 b2
      rw [e1] at q3
      rw [e2] at q4
      exact Or.inr ⟨M, S, q1, q2, by omega, by omega⟩
    · obtain ⟨⟨k, hk⟩, -⟩ := a2
      obtain ⟨c', hc'⟩ := wk_any hw hw' hk
      exact absurd hc' (b2 k c')
  · rcases h2 v hv with ⟨b1, b2⟩ | ⟨b1, b2⟩
    · obtain ⟨⟨k, hk⟩, -⟩ := b2
      obtain ⟨c', hc'⟩ := wk_any hw' hw hk
      exact absurd hc' (a2 k c')
    · rw [e1] at a1
      rw [e2] at b1
      unfold INFn at a1
      unfold FARn at b1
      exact Or.inl ⟨by omega, by omega⟩
theorem rk_SV (z : RT) (r av : Int32) (hI : RIn z) (hM : RM z) (hr : vp_in r 40) : SV (ER z av) (WR z) (fun v => v = r.toNatClampNeg) FARn (lfn FARn (q_m_least (g_Mod_reckon z r av).2)) := by
  obtain ⟨-, h2, h3⟩ := rk_spec z r av hI hM hr
  exact fun v hv => wy_val (ER_in hI hM) (by unfold FARn; decide) h2 h3 hv
/-! the nearest room -/
def nrI (y : ST) (bst lst : Int32) : Prop := (bst = -1 ∧ lst = 1000000000) ∨ (0 ≤ bst.toInt ∧ bst.toNatClampNeg < 40 ∧ lst = q_co y bst.toNatClampNeg ∧ (q_co y bst.toNatClampNeg).toInt ≠ 1000000000)
theorem nr_tw {y : ST} {t : RT} (h : Rel y t) (hT : TW (q_co y) (q_m_least t)) (a : Int32) : ∀ (k : Nat) (bst lst i : Int32), nrI y bst lst → (0 ≤ i.toInt ∧ i.toInt ≤ (q_m_rooms t).toInt ∧ (q_m_rooms t).toInt - i.toInt < (k : Int)) → L_Search_nearestOf y a k bst lst i = L_Mod_nearest t a k bst i := by
  intro k
  induction k with
  | zero => intro bst lst i _ hi; exact absurd hi.2.2 (by have := hi.2.1; omega)
  | succ k ih =>
    intro bst lst i hb hi
    have hrn : q_rn y = q_m_rooms t := h.1.2.2.2.1
    have E1 : L_Search_nearestOf y a (k + 1) bst lst i = if (q_m_rooms t) ≤ i then bst else (if (f_Rooms_isOfKind y i a) = 0 then L_Search_nearestOf y a k bst lst (i + 1) else (if lst ≤ ((q_co y) i.toNatClampNeg) then L_Search_nearestOf y a k bst lst (i + 1) else L_Search_nearestOf y a k i ((q_co y) i.toNatClampNeg) (i + 1))) := by rw [← hrn]; rfl
    rw [E1, L_Mod_nearest_s]
    by_cases c1 : q_m_rooms t ≤ i
    · rw [if_pos c1, if_pos c1]
    rw [if_neg c1, if_neg c1]
    have hI := h.2.1.1
    have hn := lp_inc hi c1 (N := 40) hI.2 (by decide)
    have hci := cl_nn hi.1
    have hlt : i.toInt < (q_m_rooms t).toInt := by rw [Int32.le_iff_toInt_le] at c1; omega
    have hi40 : i.toNatClampNeg < 40 := by omega
    have hk := kindC h a hi.1
    by_cases c2 : q_m_kind t i.toNatClampNeg = a
    · rw [if_pos c2, if_neg (hk.mpr ⟨by omega, c2⟩)]
      have eF : (100000000 : Int32).toInt = 100000000 := rfl
      have eI : (1000000000 : Int32).toInt = 1000000000 := rfl
      have hbi : (q_co y i.toNatClampNeg).toInt ≠ 1000000000 → nrI y i (q_co y i.toNatClampNeg) := fun q => Or.inr ⟨hi.1, hi40, rfl, q⟩
      rcases hT _ hi40 with ⟨q1, q2⟩ | ⟨M, S, q0, q1, q2, q3⟩
      · rw [if_pos (show (100000000 : Int32) ≤ _ by rw [Int32.le_iff_toInt_le]; omega)]
        rw [if_pos]
        · exact ih _ _ _ hb hn
        · rw [Int32.le_iff_toInt_le, q1]
          rcases hb with ⟨-, b2⟩ | ⟨b1, b2, b3, b4⟩
          · rw [b2]; decide
          · rw [b3]
            rcases hT _ b2 with ⟨p1, -⟩ | ⟨M', S', p0, p1, p2, -⟩ <;> omega
      · rw [if_neg (show ¬ (100000000 : Int32) ≤ _ by rw [Int32.le_iff_toInt_le]; omega)]
        rcases hb with ⟨b1, b2⟩ | ⟨b1, b2, b3, b4⟩
        · rw [if_pos (show bst < 0 by rw [b1]; decide), if_neg (show ¬ lst ≤ _ by rw [b2, Int32.le_iff_toInt_le]; omega)]
          exact ih _ _ _ (hbi (by omega)) hn
        · rw [if_neg (show ¬ bst < 0 by rw [Int32.lt_iff_toInt_lt, show (0 : Int32).toInt = 0 from rfl]; omega)]
          rcases hT _ b2 with ⟨p1, -⟩ | ⟨M', S', p0, p1, p2, p3⟩
          · exact absurd p1 b4
          · by_cases c3 : q_m_least t bst.toNatClampNeg ≤ q_m_least t i.toNatClampNeg
            · rw [if_pos c3]
              rw [Int32.le_iff_toInt_le] at c3
              rw [if_pos (show lst ≤ _ by rw [b3, Int32.le_iff_toInt_le]; omega)]
              exact ih _ _ _ (Or.inr ⟨b1, b2, b3, b4⟩) hn
            · rw [if_neg c3]
              rw [Int32.le_iff_toInt_le] at c3
              rw [if_neg (show ¬ lst ≤ _ by rw [b3, Int32.le_iff_toInt_le]; omega)]
              exact ih _ _ _ (hbi (by omega)) hn
    · rw [if_neg c2, if_pos (Classical.not_not.mp (fun q => c2 (hk.mp q).2))]
      exact ih _ _ _ hb hn
theorem near_eq {y : ST} {t : RT} (h : Rel y t) (hT : TW (q_co y) (q_m_least t)) (a : Int32) : f_Search_nearestOf y a = f_Mod_nearest t a := nr_tw h hT a 41 (-1) 1000000000 0 (Or.inl ⟨rfl, rfl⟩) (lp_0 (N := 40) h.2.1.1 (by decide))
theorem divP {a b : Int32} (h0 : 0 ≤ a.toInt) (hb : 0 < b.toInt) : (a / b).toInt = a.toInt / b.toInt := by
  have h1 := a.toInt_lt
  have h2 : a.toInt / b.toInt ≤ a.toInt := Int.ediv_le_self _ h0
  have h3 : 0 ≤ a.toInt / b.toInt := Int.ediv_nonneg h0 (by omega)
  rw [Int32.toInt_div, Int.tdiv_eq_ediv_of_nonneg h0]
  exact Int.bmod_eq_of_le (by omega) (by omega)
theorem metresC {y : ST} {t : RT} (h : Rel y t) (hT : TW (q_co y) (q_m_least t)) {e : Int32} (he : 0 ≤ e.toInt ∧ e.toInt < (q_m_rooms t).toInt ∧ (q_m_least t e.toNatClampNeg).toInt < 100000000) : f_Search_metresTo y e = q_m_least t e.toNatClampNeg / 100 ∧ f_Search_stairsTo y e = q_m_least t e.toNatClampNeg - q_m_least t e.toNatClampNeg / 100 * 100 ∧ 0 ≤ (q_m_least t e.toNatClampNeg / 100).toInt := by
  have hce := cl_nn he.1
  have hI := h.2.1.1
  rcases hT e.toNatClampNeg (by omega) with ⟨-, q2⟩ | ⟨M, S, q0, q1, q2, q3⟩
  · omega
  have hr : ¬ f_Search_isReached y e = 0 := fun q => by
    have := (reachC h ⟨he.1, he.2.1⟩).mp q
    rw [this, show (1000000000 : Int32).toInt = 1000000000 from rfl] at q2
    omega
  have d1 : (q_co y e.toNatClampNeg / 64).toInt = M := by
    rw [divP (by omega) (by decide), q2, show (64 : Int32).toInt = 64 from rfl]; omega
  have d2 : (q_m_least t e.toNatClampNeg / 100).toInt = M := by
    rw [divP (by omega) (by decide), q3, show (100 : Int32).toInt = 100 from rfl]; omega
  unfold f_Search_metresTo f_Search_stairsTo
  rw [if_neg hr, if_neg hr]
  refine ⟨Int32.toInt_inj.mp (by omega), Int32.toInt_inj.mp ?_, by omega⟩
  have m1 : (q_co y e.toNatClampNeg / 64 * 64).toInt = 64 * M := by
    rw [Int32.toInt_mul, d1, show (64 : Int32).toInt = 64 from rfl, Int.bmod_eq_of_le (by omega) (by omega)]; omega
  have m2 : (q_m_least t e.toNatClampNeg / 100 * 100).toInt = 100 * M := by
    rw [Int32.toInt_mul, d2, show (100 : Int32).toInt = 100 from rfl, Int.bmod_eq_of_le (by omega) (by omega)]; omega
  rw [Int32.toInt_sub, Int32.toInt_sub, m1, m2, q2, q3, Int.bmod_eq_of_le (by omega) (by omega), Int.bmod_eq_of_le (by omega) (by omega)]
  omega
/-! the lowest door into a room -/
def hitC (y : ST) (u i : Int32) : Prop := ¬ f_Search_isPassed y i = 0 ∧ ¬ f_Search_isReached y (f_Doors_roomBehind y i u) = 0 ∧ q_co y (f_Doors_roomBehind y i u).toNatClampNeg + f_Doors_costOf y i = q_co y u.toNatClampNeg
theorem behC {y : ST} {t : RT} (h : Rel y t) {i : Int32} (hd : dv t i) (u : Int32) : f_Doors_roomBehind y i u = if q_m_from t i.toNatClampNeg = u then q_m_to t i.toNatClampNeg else (if q_m_to t i.toNatClampNeg = u then q_m_from t i.toNatClampNeg else -1) := by
  obtain ⟨f1, f2, -, -⟩ := firstD h hd
  unfold f_Doors_roomBehind
  rw [f1, f2]
theorem behO {y : ST} {t : RT} (h : Rel y t) {i : Int32} (hd : dv t i) {u : Int32} (ho : q_m_from t i.toNatClampNeg = u ∨ q_m_to t i.toNatClampNeg = u) : f_Doors_roomBehind y i u = othR t u i := by
  rw [behC h hd]
  unfold othR
  by_cases c : q_m_from t i.toNatClampNeg = u
  · rw [if_pos c, if_pos c]
  · rw [if_neg c, if_neg c]
    rcases ho with q | q
    · exact absurd q c
    · rw [if_pos q]
theorem reach_neg {y : ST} {t : RT} (h : Rel y t) : f_Search_isReached y (-1) = 0 := by
  unfold f_Search_isReached
  rw [w_hasR h, if_pos]
  exact Classical.not_not.mp (fun q => absurd ((isR_iff h.2.1 (-1)).mp q).1 (by decide))
theorem oth_in {t : RT} (hI : RIn t) {i : Int32} (hd : dv t i) (u : Int32) : 0 ≤ (othR t u i).toInt ∧ (othR t u i).toInt < (q_m_rooms t).toInt := by
  have hrow := dv_row hI hd
  unfold othR
  split
  · exact hrow.2.1
  · exact hrow.1
theorem hit_tw {y : ST} {t : RT} (h : Rel y t) (hT : TW (q_co y) (q_m_least t)) {u i : Int32} (hu : 0 ≤ u.toInt ∧ u.toInt < (q_m_rooms t).toInt ∧ (q_m_least t u.toNatClampNeg).toInt < 100000000) (hd : dv t i) : hitC y u i ↔ hitR t u i := by
  unfold hitC hitR
  rw [passD h hd, (firstD h hd).2.2.1]
  by_cases ho : q_m_from t i.toNatClampNeg = u ∨ q_m_to t i.toNatClampNeg = u
  · rw [behO h hd ho]
    have hor := oth_in h.2.1 hd u
    have hI := h.2.1.1
    have co := cl_nn hor.1
    have cu := cl_nn hu.1
    have wc := costD h hd
    have wr := cost_nat h.2.2.1 hd
    have wr2 := costOf_in h.2.2.1 hd
    unfold WC at wc
    unfold WR at wr
    have hm := h.2.2.1 i.toNatClampNeg (by rw [cl_nn hd.1]; exact hd.2)
    have hs := stR_le (q_m_floor t) (q_m_from t) (q_m_to t) i.toNatClampNeg
    rw [reachC h hor]
    rcases hT u.toNatClampNeg (by omega) with ⟨-, p2⟩ | ⟨M, S, p0, p1, p2, p3⟩
    · omega
    rcases hT (othR t u i).toNatClampNeg (by omega) with ⟨q1, q2⟩ | ⟨M', S', q0, q1, q2, q3⟩
    · refine ⟨fun q => absurd (Int32.toInt_inj.mp q1) q.2.1, fun q => ?_⟩
      have q9 := congrArg Int32.toInt q.2.2
      rw [Int32.toInt_add, Int.bmod_eq_of_le (by omega) (by omega)] at q9
      omega
    · have hne : ¬ q_co y (othR t u i).toNatClampNeg = 1000000000 := fun q => by
        rw [q, show (1000000000 : Int32).toInt = 1000000000 from rfl] at q2
        omega
      have e1 : (q_co y (othR t u i).toNatClampNeg + q_dc y i.toNatClampNeg).toInt = (q_co y (othR t u i).toNatClampNeg).toInt + (q_dc y i.toNatClampNeg).toInt := by
        rw [Int32.toInt_add, Int.bmod_eq_of_le (by omega) (by omega)]
      have e2 : (q_m_least t (othR t u i).toNatClampNeg + f_Mod_costOf t i).toInt = (q_m_least t (othR t u i).toNatClampNeg).toInt + (f_Mod_costOf t i).toInt := by
        rw [Int32.toInt_add, Int.bmod_eq_of_le (by omega) (by omega)]
      refine ⟨fun q => ⟨ho, q.1, Int32.toInt_inj.mp ?_⟩, fun q => ⟨q.2.1, hne, Int32.toInt_inj.mp ?_⟩⟩
      · have q9 := congrArg Int32.toInt q.2.2
        omega
      · have q9 := congrArg Int32.toInt q.2.2
        omega
  · refine ⟨fun q => ?_, fun q => absurd q.1 ho⟩
    exfalso
    have e := behC h hd u
    rw [if_neg (fun c => ho (Or.inl c)), if_neg (fun c => ho (Or.inr c))] at e
    rw [e] at q
    exact q.2.1 (reach_neg h)
theorem low_L {y : ST} {t : RT} (h : Rel y t) (hT : TW (q_co y) (q_m_least t)) {u : Int32} (hu : 0 ≤ u.toInt ∧ u.toInt < (q_m_rooms t).toInt ∧ (q_m_least t u.toNatClampNeg).toInt < 100000000) : ∀ (k : Nat) (i : Int32), (0 ≤ i.toInt ∧ i.toInt ≤ (q_m_doors t).toInt ∧ (q_m_doors t).toInt - i.toInt < (k : Int)) → L_Search_lowestDoorInto y u k i = L_Mod_into t u k i := by
  intro k
  induction k with
  | zero => intro i hi; exact absurd hi.2.2 (by have := hi.2.1; omega)
  | succ k ih =>
    intro i hi
    have hdn : q_dn y = q_m_doors t := h.1.2.2.2.2.2.2.2.1
    have E1 : L_Search_lowestDoorInto y u (k + 1) i = if (q_m_doors t) ≤ i then (-1) else (if (f_Search_isPassed y i) = 0 then L_Search_lowestDoorInto y u k (i + 1) else (if (f_Search_isReached y (f_Doors_roomBehind y i u)) = 0 then L_Search_lowestDoorInto y u k (i + 1) else (if (((q_co y) (f_Doors_roomBehind y i u).toNatClampNeg) + (f_Doors_costOf y i)) = ((q_co y) u.toNatClampNeg) then i else L_Search_lowestDoorInto y u k (i + 1)))) := by rw [← hdn]; rfl
    rw [E1]
    by_cases c1 : q_m_doors t ≤ i
    · rw [if_pos c1, L_Mod_into_s, if_pos c1]
    rw [if_neg c1]
    have hn := lp_inc hi c1 (N := 80) h.2.1.2.1.2 (by decide)
    have hd : dv t i := ⟨hi.1, by rw [Int32.le_iff_toInt_le] at c1; omega⟩
    obtain ⟨s1, s2⟩ := Linto_s t u k i c1
    have ht := hit_tw h hT hu hd
    by_cases c2 : hitR t u i
    · rw [s1 c2]
      obtain ⟨g1, g2, g3⟩ := ht.mpr c2
      rw [if_neg g1, if_neg g2, if_pos g3]
    · rw [s2 c2, ← ih _ hn]
      have c3 := fun q => c2 (ht.mp q)
      by_cases d1 : f_Search_isPassed y i = 0
      · rw [if_pos d1]
      rw [if_neg d1]
      by_cases d2 : f_Search_isReached y (f_Doors_roomBehind y i u) = 0
      · rw [if_pos d2]
      rw [if_neg d2]
      by_cases d3 : q_co y (f_Doors_roomBehind y i u).toNatClampNeg + f_Doors_costOf y i = q_co y u.toNatClampNeg
      · exact absurd ⟨d1, d2, d3⟩ c3
      · rw [if_neg d3]
theorem reachT {y : ST} {t : RT} (h : Rel y t) (hT : TW (q_co y) (q_m_least t)) {u : Int32} (hu : 0 ≤ u.toInt ∧ u.toInt < (q_m_rooms t).toInt ∧ (q_m_least t u.toNatClampNeg).toInt < 100000000) : ¬ f_Search_isReached y u = 0 := fun q => by
  have hI := h.2.1.1
  have cu := cl_nn hu.1
  have q1 := (reachC h ⟨hu.1, hu.2.1⟩).mp q
  rcases hT u.toNatClampNeg (by omega) with ⟨-, p2⟩ | ⟨M, S, p0, p1, p2, p3⟩
  · omega
  · rw [q1, show (1000000000 : Int32).toInt = 1000000000 from rfl] at p2
    omega
theorem low_eq {y : ST} {t : RT} (h : Rel y t) (hT : TW (q_co y) (q_m_least t)) {u : Int32} (hu : 0 ≤ u.toInt ∧ u.toInt < (q_m_rooms t).toInt ∧ (q_m_least t u.toNatClampNeg).toInt < 100000000) : f_Search_lowestDoorInto y u = f_Mod_into t u := by
  unfold f_Search_lowestDoorInto
  rw [if_neg (reachT h hT hu)]
  exact low_L h hT hu 81 0 (lp_0 (N := 80) h.2.1.2.1 (by decide))
