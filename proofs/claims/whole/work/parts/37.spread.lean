/-! what the class's search leaves -/
def WC (z : RT) (i : Nat) : Nat := 64 * (q_m_metres z i).toInt.toNat + stR (q_m_floor z) (q_m_from z) (q_m_to z) i
def INFn : Nat := 1000000000
def cb (y : ST) : Prop := ∀ j : Nat, j < 40 → 0 ≤ (q_co y j).toInt ∧ (q_co y j).toInt ≤ 1000000000
theorem stR_le (fl fr to : Nat → Int32) (i : Nat) : stR fl fr to i ≤ 1 := by
  unfold stR; split <;> omega
theorem hasD {y : ST} {z : RT} (h : Rel y z) {i : Int32} (hd : dv z i) : ¬ f_Doors_has y i = 0 := by
  have e : f_Doors_has y i = f_Mod_in i 0 (q_m_doors z - 1) := by
    unfold f_Doors_has
    rw [show q_dn y = q_m_doors z from h.1.2.2.2.2.2.2.2.1]
    exact w_has (by have := h.2.1.2.1; omega)
  rw [e, in_iff]
  have e2 : (q_m_doors z - 1).toInt = (q_m_doors z).toInt - 1 := by
    have := h.2.1.2.1
    rw [Int32.toInt_sub, show (1 : Int32).toInt = 1 from rfl]
    exact Int.bmod_eq_of_le (by omega) (by omega)
  rw [e2, show (0 : Int32).toInt = 0 from rfl]
  have := hd.1
  have := hd.2
  omega
theorem firstD {y : ST} {z : RT} (h : Rel y z) {i : Int32} (hd : dv z i) : f_Doors_firstRoomOf y i = q_m_from z i.toNatClampNeg ∧ f_Doors_secondRoomOf y i = q_m_to z i.toNatClampNeg ∧ f_Doors_costOf y i = q_dc y i.toNatClampNeg ∧ f_Doors_keyOf y i = q_m_lock z i.toNatClampNeg := by
  have hh := hasD h hd
  have e5 : q_da y = q_m_from z := h.1.2.2.2.2.1
  have e6 : q_db y = q_m_to z := h.1.2.2.2.2.2.1
  have e7 : q_dk y = q_m_lock z := h.1.2.2.2.2.2.2.1
  unfold f_Doors_firstRoomOf f_Doors_secondRoomOf f_Doors_costOf f_Doors_keyOf
  rw [if_neg hh, if_neg hh, if_neg hh, if_neg hh, e5, e6, e7]
  exact ⟨rfl, rfl, rfl, rfl⟩
theorem passD {y : ST} {z : RT} (h : Rel y z) {i : Int32} (hd : dv z i) : f_Search_isPassed y i = f_Mod_isPassed z i := by
  unfold f_Search_isPassed f_Mod_isPassed
  rw [(firstD h hd).2.2.2]
  by_cases c : q_m_lock z i.toNatClampNeg = 0
  · rw [if_pos c, if_pos c]
  · rw [if_neg c, if_neg c]
    have hr := (dv_row h.2.1 hd).2.2
    have hne : (q_m_lock z i.toNatClampNeg).toInt ≠ 0 := fun q => c (Int32.toInt_inj.mp q)
    rw [at_hand2 h ((in_iff _ 1 30).mpr (by rw [show (1 : Int32).toInt = 1 from rfl, show (30 : Int32).toInt = 30 from rfl]; omega))]
theorem reachC {y : ST} {z : RT} (h : Rel y z) {u : Int32} (hu : 0 ≤ u.toInt ∧ u.toInt < (q_m_rooms z).toInt) : f_Search_isReached y u = 0 ↔ q_co y u.toNatClampNeg = 1000000000 := by
  unfold f_Search_isReached
  rw [w_hasR h, if_neg ((isR_iff h.2.1 u).mpr hu)]
  split
  · exact ⟨fun _ => by assumption, fun _ => rfl⟩
  · exact ⟨fun q => absurd q (by decide), fun q => absurd q (by assumption)⟩
theorem costD {y : ST} {z : RT} (h : Rel y z) {i : Int32} (hd : dv z i) : (q_dc y i.toNatClampNeg).toInt = (WC z i.toNatClampNeg : Nat) ∧ 0 < WC z i.toNatClampNeg ∧ WC z i.toNatClampNeg ≤ 32001 := by
  have hc := cl_nn hd.1
  have h1 := h.2.2.2.1 i.toNatClampNeg (by rw [hc]; exact hd.2)
  have h2 := h.2.2.1 i.toNatClampNeg (by rw [hc]; exact hd.2)
  have h3 := stR_le (q_m_floor z) (q_m_from z) (q_m_to z) i.toNatClampNeg
  unfold WC
  rw [h1]
  omega
def lcG (y : ST) (u v w av : Int32) : Prop := ¬ q_co y u.toNatClampNeg = 1000000000 ∧ q_hz y v.toNatClampNeg &&& av = 0 ∧ q_co y u.toNatClampNeg + w < q_co y v.toNatClampNeg
theorem lc_eq {y : ST} {z : RT} (h : Rel y z) {u v : Int32} (w av : Int32) (hu : 0 ≤ u.toInt ∧ u.toInt < (q_m_rooms z).toInt) (hv : 0 ≤ v.toInt ∧ v.toInt < (q_m_rooms z).toInt) : (lcG y u v w av ∧ g_Search_lowerCost y u v w av = (1, s_co y (upd (q_co y) v.toNatClampNeg (q_co y u.toNatClampNeg + w)))) ∨ (¬ lcG y u v w av ∧ g_Search_lowerCost y u v w av = (0, y)) := by
  unfold g_Search_lowerCost lcG f_Rooms_hasHazardOf
  rw [w_hasR h]
  by_cases c1 : f_Search_isReached y u = 0
  · rw [if_pos c1]; exact Or.inr ⟨fun q => q.1 ((reachC h hu).mp c1), rfl⟩
  rw [if_neg c1, if_neg ((isR_iff h.2.1 v).mpr hv), if_neg ((isR_iff h.2.1 v).mpr hv)]
  have c1' := fun q => c1 ((reachC h hu).mpr q)
  by_cases c2 : q_hz y v.toNatClampNeg &&& av = 0
  · rw [if_pos c2, if_pos rfl]
    by_cases c3 : q_co y u.toNatClampNeg + w < q_co y v.toNatClampNeg
    · rw [if_pos c3]; exact Or.inl ⟨⟨c1', c2, c3⟩, rfl⟩
    · rw [if_neg c3]; exact Or.inr ⟨fun q => c3 q.2.2, rfl⟩
  · rw [if_neg c2, if_neg (by decide)]; exact Or.inr ⟨fun q => c2 q.2.1, rfl⟩
def lcS (z : RT) (av : Int32) (src : Nat → Prop) (y : ST) (r : Int32 × ST) : Prop := Rel r.2 z ∧ cb r.2 ∧ (r.1 = 0 → r.2 = y) ∧ (∀ j, lfn INFn (q_co r.2) j ≤ lfn INFn (q_co y) j) ∧ (wy_I (ER z av) (WC z) src INFn (lfn INFn (q_co y)) → wy_I (ER z av) (WC z) src INFn (lfn INFn (q_co r.2)))
theorem lc_spec {y : ST} {z : RT} (h : Rel y z) (hb : cb y) {i u v w : Int32} (av : Int32) {src : Nat → Prop} (hd : dv z i) (hp : ¬ f_Mod_isPassed z i = 0) (huv : (u = q_m_from z i.toNatClampNeg ∧ v = q_m_to z i.toNatClampNeg) ∨ (u = q_m_to z i.toNatClampNeg ∧ v = q_m_from z i.toNatClampNeg)) (hw : w.toInt = (WC z i.toNatClampNeg : Nat)) :
    lcS z av src y (g_Search_lowerCost y u v w av) ∧ (q_m_hazard z v.toNatClampNeg &&& av = 0 → lfn INFn (q_co y) u.toNatClampNeg < INFn → lfn INFn (q_co (g_Search_lowerCost y u v w av).2) v.toNatClampNeg ≤ lfn INFn (q_co y) u.toNatClampNeg + WC z i.toNatClampNeg) := by
  have hrow := dv_row h.2.1 hd
  have hI := h.2.1.1
  have hu : 0 ≤ u.toInt ∧ u.toInt < (q_m_rooms z).toInt := by rcases huv with ⟨e, -⟩ | ⟨e, -⟩ <;> rw [e] <;> omega
  have hv : 0 ≤ v.toInt ∧ v.toInt < (q_m_rooms z).toInt := by rcases huv with ⟨-, e⟩ | ⟨-, e⟩ <;> rw [e] <;> omega
  have cu := cl_nn hu.1
  have cv := cl_nn hv.1
  have hu40 : u.toNatClampNeg < 40 := by omega
  have hv40 : v.toNatClampNeg < 40 := by omega
  have bu := hb _ hu40
  have bv := hb _ hv40
  have hwc := costD h hd
  have hhz : q_hz y = q_m_hazard z := h.1.2.2.1
  have es : (q_co y u.toNatClampNeg + w).toInt = (q_co y u.toNatClampNeg).toInt + w.toInt := by
    rw [Int32.toInt_add]
    exact Int.bmod_eq_of_le (by omega) (by omega)
  have eu : lfn INFn (q_co y) u.toNatClampNeg = (q_co y u.toNatClampNeg).toInt.toNat := if_pos hu40
  have ev : lfn INFn (q_co y) v.toNatClampNeg = (q_co y v.toNatClampNeg).toInt.toNat := if_pos hv40
  rcases lc_eq h w av hu hv with ⟨⟨g1, g2, g3⟩, e⟩ | ⟨g, e⟩
  · rw [e]
    rw [Int32.lt_iff_toInt_lt, es] at g3
    have g1' : (q_co y u.toNatClampNeg).toInt ≠ 1000000000 := fun q => g1 (Int32.toInt_inj.mp q)
    have hl : lfn INFn (upd (q_co y) v.toNatClampNeg (q_co y u.toNatClampNeg + w)) = fun j => if j = v.toNatClampNeg then lfn INFn (q_co y) u.toNatClampNeg + WC z i.toNatClampNeg else lfn INFn (q_co y) j := lfn_upd hv40 hu40 (by rw [es]; omega)
    refine ⟨⟨h.co _, fun j hj => ?_, fun q => absurd (show (1 : Int32) = 0 from q) (by decide), fun j => ?_, fun hw => ?_⟩, fun _ _ => ?_⟩
    · show 0 ≤ (upd (q_co y) v.toNatClampNeg (q_co y u.toNatClampNeg + w) j).toInt ∧ (upd (q_co y) v.toNatClampNeg (q_co y u.toNatClampNeg + w) j).toInt ≤ 1000000000
      by_cases ej : j = v.toNatClampNeg
      · rw [ej, upd_eq]; omega
      · rw [upd_ne ej]; exact hb j hj
    · show lfn INFn (upd (q_co y) v.toNatClampNeg (q_co y u.toNatClampNeg + w)) j ≤ _
      rw [hl]
      by_cases ej : j = v.toNatClampNeg
      · rw [ej]; simp only [↓reduceIte]; rw [eu, ev]; omega
      · simp only [ej, ↓reduceIte]; exact Nat.le_refl _
    · show wy_I (ER z av) (WC z) src INFn (lfn INFn (upd (q_co y) v.toNatClampNeg (q_co y u.toNatClampNeg + w)))
      rw [hl]
      refine wy_step hw (i := i.toNatClampNeg) ⟨by rw [cl_nn hd.1]; exact hd.2, passed_iff.mp hp, ?_, by rw [← hhz]; exact g2⟩ ?_ ?_
      · rcases huv with ⟨e1, e2⟩ | ⟨e1, e2⟩
        · exact Or.inl ⟨by rw [e1], by rw [e2]⟩
        · exact Or.inr ⟨by rw [e1], by rw [e2]⟩
      · rw [eu]; unfold INFn; omega
      · rw [eu, ev]; omega
    · show lfn INFn (upd (q_co y) v.toNatClampNeg (q_co y u.toNatClampNeg + w)) v.toNatClampNeg ≤ _
      rw [hl]; simp only [↓reduceIte]; exact Nat.le_refl _
  · rw [e]
    refine ⟨⟨h, hb, fun _ => rfl, fun j => Nat.le_refl _, fun q => q⟩, fun q1 q2 => ?_⟩
    show lfn INFn (q_co y) v.toNatClampNeg ≤ _
    rw [eu] at q2 ⊢
    rw [ev]
    unfold INFn at q2
    have : ¬ q_co y u.toNatClampNeg + w < q_co y v.toNatClampNeg := fun q => g ⟨fun q9 => by rw [q9] at q2; exact absurd q2 (by decide), by rw [hhz]; exact q1, q⟩
    rw [Int32.lt_iff_toInt_lt, es] at this
    omega
theorem Ls_s (av : Int32) (k : Nat) (ch i : Int32) (y : ST) (h1 : ¬ q_dn y ≤ i) (h2 : ¬ f_Search_isPassed y i = 0) : ∃ ch' : Int32, (ch' = 0 → ch = 0 ∧ (g_Search_lowerCost y (f_Doors_firstRoomOf y i) (f_Doors_secondRoomOf y i) (f_Doors_costOf y i) av).1 = 0 ∧ (g_Search_lowerCost (g_Search_lowerCost y (f_Doors_firstRoomOf y i) (f_Doors_secondRoomOf y i) (f_Doors_costOf y i) av).2 (f_Doors_secondRoomOf y i) (f_Doors_firstRoomOf y i) (f_Doors_costOf y i) av).1 = 0) ∧
    L_Search_spreadOverAllDoors av (k + 1) ch i y = L_Search_spreadOverAllDoors av k ch' (i + 1) (g_Search_lowerCost (g_Search_lowerCost y (f_Doors_firstRoomOf y i) (f_Doors_secondRoomOf y i) (f_Doors_costOf y i) av).2 (f_Doors_secondRoomOf y i) (f_Doors_firstRoomOf y i) (f_Doors_costOf y i) av).2 := by
  rw [L_Search_spreadOverAllDoors_s, if_neg h1, if_neg h2]
  generalize g_Search_lowerCost y (f_Doors_firstRoomOf y i) (f_Doors_secondRoomOf y i) (f_Doors_costOf y i) av = A
  generalize g_Search_lowerCost A.2 (f_Doors_secondRoomOf y i) (f_Doors_firstRoomOf y i) (f_Doors_costOf y i) av = B
  by_cases c1 : ch = 0
  · rw [if_pos c1]
    by_cases c2 : B.1 = 0
    · rw [if_pos c2]
      by_cases c3 : A.1 = 0
      · rw [if_pos c3]; exact ⟨0, fun _ => ⟨c1, c3, c2⟩, rfl⟩
      · rw [if_neg c3]; exact ⟨1, fun q => absurd q (by decide), rfl⟩
    · rw [if_neg c2]; exact ⟨1, fun q => absurd q (by decide), rfl⟩
  · rw [if_neg c1]; exact ⟨1, fun q => absurd q (by decide), rfl⟩
theorem Ls_spec {z : RT} (av : Int32) {src : Nat → Prop} : ∀ (k : Nat) (ch i : Int32) (y : ST), Rel y z → cb y → (0 ≤ i.toInt ∧ i.toInt ≤ (q_m_doors z).toInt ∧ (q_m_doors z).toInt - i.toInt < (k : Int)) →
    (Rel (L_Search_spreadOverAllDoors av k ch i y).2 z ∧ cb (L_Search_spreadOverAllDoors av k ch i y).2 ∧ ((L_Search_spreadOverAllDoors av k ch i y).1 = 0 → ch = 0 ∧ (L_Search_spreadOverAllDoors av k ch i y).2 = y) ∧ (∀ j, lfn INFn (q_co (L_Search_spreadOverAllDoors av k ch i y).2) j ≤ lfn INFn (q_co y) j) ∧ (wy_I (ER z av) (WC z) src INFn (lfn INFn (q_co y)) → wy_I (ER z av) (WC z) src INFn (lfn INFn (q_co (L_Search_spreadOverAllDoors av k ch i y).2)))) ∧
    ∀ (d u v : Nat), i.toInt ≤ d → ER z av d u v → lfn INFn (q_co y) u < INFn → lfn INFn (q_co (L_Search_spreadOverAllDoors av k ch i y).2) v ≤ lfn INFn (q_co y) u + WC z d := by
  intro k
  induction k with
  | zero => intro ch i y _ _ hi; exact absurd hi.2.2 (by have := hi.2.1; omega)
  | succ k ih =>
    intro ch i y h hb hi
    have hdn : q_dn y = q_m_doors z := h.1.2.2.2.2.2.2.2.1
    by_cases c1 : q_m_doors z ≤ i
    · rw [L_Search_spreadOverAllDoors_s, hdn, if_pos c1]
      refine ⟨⟨h, hb, fun q => ⟨q, rfl⟩, fun j => Nat.le_refl _, fun q => q⟩, fun d u v hd hE => ?_⟩
      rw [Int32.le_iff_toInt_le] at c1
      have := hE.1
      omega
    have hn := lp_inc hi c1 (N := 80) h.2.1.2.1.2 (by decide)
    have hi1 : (i + 1).toInt = i.toInt + 1 := inc1 (by have := h.2.1.2.1; omega)
    have c1' : i.toInt < (q_m_doors z).toInt := by rw [Int32.le_iff_toInt_le] at c1; omega
    have hd : dv z i := ⟨hi.1, c1'⟩
    have hci := cl_nn hi.1
    by_cases c2 : f_Search_isPassed y i = 0
    · rw [L_Search_spreadOverAllDoors_s, hdn, if_neg c1, if_pos c2]
      obtain ⟨q1, q2⟩ := ih ch (i + 1) y h hb hn
      refine ⟨q1, fun d u v hd' hE => ?_⟩
      by_cases e : (d : Int) = i.toInt
      · exfalso
        have ed : d = i.toNatClampNeg := by omega
        have := hE.2.1
        rw [ed] at this
        exact absurd ((passD h hd).symm.trans c2) (passed_iff.mpr this)
      · exact q2 d u v (by omega) hE
    obtain ⟨ch', hch, hL⟩ := Ls_s av k ch i y (by rw [hdn]; exact c1) c2
    rw [hL]
    have hp : ¬ f_Mod_isPassed z i = 0 := by rw [← passD h hd]; exact c2
    obtain ⟨f1, f2, f3, -⟩ := firstD h hd
    have hw := (costD h hd).1
    rw [← f3] at hw
    rw [f1, f2] at hch ⊢
    obtain ⟨⟨a1, a2, a3, a4, a5⟩, a6⟩ := lc_spec (src := src) h hb av hd hp (Or.inl ⟨rfl, rfl⟩) hw
    obtain ⟨⟨b1, b2, b3, b4, b5⟩, b6⟩ := lc_spec (src := src) a1 a2 av hd hp (Or.inr ⟨rfl, rfl⟩) hw
    obtain ⟨⟨d1, d2, d3, d4, d5⟩, d6⟩ := ih ch' (i + 1) _ b1 b2 hn
    refine ⟨⟨d1, d2, fun q => ?_, fun j => Nat.le_trans (d4 j) (Nat.le_trans (b4 j) (a4 j)), fun q => d5 (b5 (a5 q))⟩, fun d u v hd' hE hu => ?_⟩
    · obtain ⟨q1, q2⟩ := d3 q
      obtain ⟨r1, r2, r3⟩ := hch q1
      exact ⟨r1, q2.trans ((b3 r3).trans (a3 r2))⟩
    · by_cases e : (d : Int) = i.toInt
      · have ed : d = i.toNatClampNeg := by omega
        subst ed
        obtain ⟨e1, e2, e3, e4⟩ := hE
        rcases e3 with ⟨e5, e6⟩ | ⟨e5, e6⟩
        · subst e5; subst e6
          exact Nat.le_trans (d4 _) (Nat.le_trans (b4 _) (a6 e4 hu))
        · subst e5; subst e6
          refine Nat.le_trans (d4 _) (Nat.le_trans (b6 e4 (Nat.lt_of_le_of_lt (a4 _) hu)) (Nat.add_le_add_right (a4 _) _))
      · have hu2 := Nat.le_trans (b4 u) (a4 u)
        exact Nat.le_trans (d6 d u v (by omega) hE (Nat.lt_of_le_of_lt hu2 hu)) (Nat.add_le_add_right hu2 _)
/-! forty rounds -/
def pass (av : Int32) (y : ST) : ST := (g_Search_spreadOverAllDoors y av).2
def itp (av : Int32) : Nat → ST → ST
  | 0, y => y
  | n + 1, y => itp av n (pass av y)
theorem itp_fix {av : Int32} {y : ST} (h : pass av y = y) : ∀ n, itp av n y = y := by
  intro n
  induction n with
  | zero => rfl
  | succ n ih => show itp av n (pass av y) = y; rw [h]; exact ih
theorem itp_s (av : Int32) : ∀ n y, itp av (n + 1) y = pass av (itp av n y) := by
  intro n
  induction n with
  | zero => intro y; rfl
  | succ n ih => intro y; show itp av (n + 1) (pass av y) = _; rw [ih]; rfl
theorem pass_spec {z : RT} (av : Int32) {src : Nat → Prop} {y : ST} (h : Rel y z) (hb : cb y) : Rel (pass av y) z ∧ cb (pass av y) ∧ ((g_Search_spreadOverAllDoors y av).1 = 0 → pass av y = y) ∧ (wy_I (ER z av) (WC z) src INFn (lfn INFn (q_co y)) → wy_I (ER z av) (WC z) src INFn (lfn INFn (q_co (pass av y)))) ∧ wy_P (ER z av) (WC z) INFn (lfn INFn (q_co y)) (lfn INFn (q_co (pass av y))) := by
  obtain ⟨⟨q1, q2, q3, q4, q5⟩, q6⟩ := Ls_spec (z := z) av (src := src) 81 0 0 y h hb (lp_0 (N := 80) h.2.1.2.1 (by decide))
  refine ⟨q1, q2, fun q => (q3 q).2, q5, q4, fun i u v hE hu => q6 i u v (by rw [show (0 : Int32).toInt = 0 from rfl]; omega) hE hu⟩
theorem sp_it {z : RT} (av : Int32) : ∀ (n k : Nat) (ch i : Int32) (y : ST), Rel y z → cb y → 0 ≤ i.toInt → i.toInt + n = 40 → n < k → (ch = 0 → pass av y = y) → (L_Search_spread av k ch i y).2 = itp av n y := by
  intro n
  induction n with
  | zero =>
    intro k ch i y h hb h0 h1 hk hc
    match k, hk with
    | k + 1, _ =>
    rw [L_Search_spread_s]
    by_cases c : ch = 0
    · rw [if_pos c]; rfl
    · rw [if_neg c, if_pos (by rw [Int32.le_iff_toInt_le, show (40 : Int32).toInt = 40 from rfl]; omega)]; rfl
  | succ n ih =>
    intro k ch i y h hb h0 h1 hk hc
    match k, hk with
    | k + 1, hk =>
    rw [L_Search_spread_s]
    by_cases c : ch = 0
    · rw [if_pos c]; exact (itp_fix (hc c) _).symm
    · rw [if_neg c, if_neg (by rw [Int32.le_iff_toInt_le, show (40 : Int32).toInt = 40 from rfl]; omega)]
      obtain ⟨q1, q2, q3, -, -⟩ := pass_spec (z := z) av (src := fun _ => False) h hb
      refine ih k _ (i + 1) _ q1 q2 (by rw [inc1 (by omega)]; omega) (by rw [inc1 (by omega)]; omega) (by omega) (fun q => ?_)
      have q4 := q3 q
      have e : (g_Search_spreadOverAllDoors y av).2 = y := q4
      rw [e]; exact q4
theorem it_spec {z : RT} (av : Int32) {src : Nat → Prop} {y : ST} (h : Rel y z) (hb : cb y) (hw : wy_I (ER z av) (WC z) src INFn (lfn INFn (q_co y))) : ∀ n, Rel (itp av n y) z ∧ cb (itp av n y) ∧ wy_I (ER z av) (WC z) src INFn (lfn INFn (q_co (itp av n y))) ∧ wy_P (ER z av) (WC z) INFn (lfn INFn (q_co (itp av n y))) (lfn INFn (q_co (itp av (n + 1) y))) := by
  intro n
  induction n with
  | zero => exact ⟨h, hb, hw, (pass_spec av (src := src) h hb).2.2.2.2⟩
  | succ n ih =>
    obtain ⟨i1, i2, i3, -⟩ := ih
    obtain ⟨q1, q2, -, q4, -⟩ := pass_spec av (src := src) i1 i2
    rw [itp_s] 
    refine ⟨q1, q2, q4 i3, ?_⟩
    rw [itp_s, itp_s]
    exact (pass_spec av (src := src) q1 q2).2.2.2.2
theorem EC_in {z : RT} {av : Int32} (hI : RIn z) (hM : RM z) : ∀ i u v, ER z av i u v → u < 40 ∧ 0 < WC z i ∧ WC z i ≤ 32001 := by
  intro i u v hE
  have h1 := (ER_in hI hM i u v hE).1
  have h2 := hM i hE.1
  have h3 := stR_le (q_m_floor z) (q_m_from z) (q_m_to z) i
  unfold WC
  omega
/-- a row that holds the least costs -/
def SV (E : Nat → Nat → Nat → Prop) (w : Nat → Nat) (src : Nat → Prop) (inf : Nat) (f : Nat → Nat) : Prop := ∀ v, v < 40 → (f v < inf ∧ wy_d E w src v (f v)) ∨ (f v = inf ∧ ∀ k c, ¬ wy_k E w src k v c)
theorem spread_SV {z : RT} (av : Int32) {src : Nat → Prop} {y : ST} (h : Rel y z) (hb : cb y) (hw : wy_I (ER z av) (WC z) src INFn (lfn INFn (q_co y))) : Rel (g_Search_spread y av).2 z ∧ cb (g_Search_spread y av).2 ∧ SV (ER z av) (WC z) src INFn (lfn INFn (q_co (g_Search_spread y av).2)) := by
  have e : (g_Search_spread y av).2 = itp av 40 y := sp_it av 40 41 1 0 y h hb (by decide) (by decide) (by decide) (fun q => absurd q (by decide))
  rw [e]
  have hs := it_spec av h hb hw
  obtain ⟨q1, q2, q3, -⟩ := hs 40
  refine ⟨q1, q2, fun v hv => ?_⟩
  by_cases hx : ∃ k c, wy_k (ER z av) (WC z) src k v c
  · obtain ⟨c, hc⟩ := wy_least hx
    have hE := EC_in (av := av) h.2.1 h.2.2.1
    have h1 := wy_settle hE (inf := INFn) (by unfold INFn; decide) (fun t => lfn INFn (q_co (itp av t y))) (fun t => (hs t).2.2.1) (fun t => (hs t).2.2.2) 40 v c hv hc (Nat.le_of_lt (wy_r_top hv hc))
    have h1 : lfn INFn (q_co (itp av 40 y)) v = c := h1
    have h2 := wy_bound hE 40 v c hc (Nat.le_of_lt (wy_r_top hv hc))
    left
    rw [h1]
    exact ⟨by unfold INFn; omega, hc⟩
  · have h3 : ∀ k c, ¬ wy_k (ER z av) (WC z) src k v c := fun k c hk => hx ⟨k, c, hk⟩
    exact Or.inr ⟨wy_none q3 h3, h3⟩
/-! where a search begins -/
theorem fill_spec {z : RT} (v : Int32) : ∀ (k : Nat) (i : Int32) (y : ST), (0 ≤ i.toInt ∧ i.toInt ≤ 40 ∧ 40 - i.toInt < (k : Int)) → Rel y z → (∀ j : Nat, (j : Int) < i.toInt → q_co y j = v) → Rel (L_Arr_fill v k i y).2 z ∧ ∀ j : Nat, j < 40 → q_co (L_Arr_fill v k i y).2 j = v := by
  intro k
  induction k with
  | zero => intro i y hi; exact absurd hi.2.2 (by have := hi.2.1; omega)
  | succ k ih =>
    intro i y hi h hf
    rw [L_Arr_fill_s]
    by_cases c : 40 ≤ i
    · rw [if_pos c]
      rw [Int32.le_iff_toInt_le, show (40 : Int32).toInt = 40 from rfl] at c
      exact ⟨h, fun j hj => hf j (by omega)⟩
    · rw [if_neg c]
      have hi1 : (i + 1).toInt = i.toInt + 1 := inc1 (by omega)
      have hci := cl_nn hi.1
      refine ih _ _ (lp_inc40 hi c) (h.co _) (fun j hj => ?_)
      show upd (q_co y) i.toNatClampNeg v j = v
      by_cases e : j = i.toNatClampNeg
      · rw [e, upd_eq]
      · rw [upd_ne e]; exact hf j (by omega)
theorem start_I {E : Nat → Nat → Nat → Prop} {w : Nat → Nat} {src : Nat → Prop} {inf : Nat} {f : Nat → Nat} (h1 : ∀ v, src v → f v = 0) (h2 : ∀ v, ¬ src v → f v = inf) : wy_I E w src inf f := by
  refine ⟨fun v => ?_, fun v hv => ?_, h1⟩
  · by_cases q : src v
    · rw [h1 v q]; exact Nat.zero_le _
    · rw [h2 v q]; exact Nat.le_refl _
  · by_cases q : src v
    · rw [h1 v q]; exact ⟨0, q, rfl⟩
    · rw [h2 v q] at hv; exact absurd hv (Nat.lt_irrefl _)
theorem fromRoom {x : ST} {z : RT} (h : Rel x z) (r av : Int32) (hr : 0 ≤ r.toInt ∧ r.toInt < (q_m_rooms z).toInt) : Rel (g_Search_spreadFromRoom x r av).2 z ∧ cb (g_Search_spreadFromRoom x r av).2 ∧ SV (ER z av) (WC z) (fun v => v = r.toNatClampNeg) INFn (lfn INFn (q_co (g_Search_spreadFromRoom x r av).2)) := by
  obtain ⟨q1, q2⟩ := fill_spec (z := z) 1000000000 41 0 x (by decide) h (fun j hj => absurd hj (by rw [show (0 : Int32).toInt = 0 from rfl]; omega))
  have e : (g_Search_spreadFromRoom x r av).2 = (g_Search_spread (s_co ((g_Arr_fill x 1000000000).2) (upd (q_co ((g_Arr_fill x 1000000000).2)) r.toNatClampNeg 0)) av).2 := by
    unfold g_Search_spreadFromRoom
    rw [w_hasR (z := z) (x := (g_Arr_fill x 1000000000).2) q1, if_neg ((isR_iff h.2.1 r).mpr hr)]
  rw [e]
  have q1 : Rel (g_Arr_fill x 1000000000).2 z := q1
  have q2 : ∀ j : Nat, j < 40 → q_co (g_Arr_fill x 1000000000).2 j = 1000000000 := q2
  have hI := h.2.1.1
  have hcr := cl_nn hr.1
  refine spread_SV av (q1.co _) (fun j hj => ?_) (start_I (fun v hv => ?_) (fun v hv => ?_))
  · show 0 ≤ (upd (q_co (g_Arr_fill x 1000000000).2) r.toNatClampNeg 0 j).toInt ∧ (upd (q_co (g_Arr_fill x 1000000000).2) r.toNatClampNeg 0 j).toInt ≤ 1000000000
    by_cases ej : j = r.toNatClampNeg
    · rw [ej, upd_eq]; decide
    · rw [upd_ne ej, q2 j hj]; decide
  · show lfn INFn (upd (q_co (g_Arr_fill x 1000000000).2) r.toNatClampNeg 0) v = 0
    unfold lfn
    rw [if_pos (by omega), hv, upd_eq]; rfl
  · show lfn INFn (upd (q_co (g_Arr_fill x 1000000000).2) r.toNatClampNeg 0) v = INFn
    unfold lfn
    by_cases hj : v < 40
    · rw [if_pos hj, upd_ne hv, q2 v hj]; rfl
    · rw [if_neg hj]
def srcK (z : RT) (k : Int32) (v : Nat) : Prop := (v : Int) < (q_m_rooms z).toInt ∧ q_m_kind z v = k
theorem kindC {y : ST} {z : RT} (h : Rel y z) {i : Int32} (k : Int32) (hi : 0 ≤ i.toInt) : ¬ f_Rooms_isOfKind y i k = 0 ↔ srcK z k i.toNatClampNeg := by
  have hk : q_kd y = q_m_kind z := h.1.2.1
  unfold f_Rooms_isOfKind srcK
  rw [w_hasR h, hk]
  have hc := cl_nn hi
  have hr := isR_iff h.2.1 i
  by_cases c : f_Mod_isRoom z i = 0
  · rw [if_pos c]
    refine ⟨fun q => absurd rfl q, fun q => ?_⟩
    exact absurd c (hr.mpr ⟨hi, by omega⟩)
  · rw [if_neg c]
    have := hr.mp c
    by_cases c2 : q_m_kind z i.toNatClampNeg = k
    · rw [if_pos c2]; exact ⟨fun _ => ⟨by omega, c2⟩, fun _ => by decide⟩
    · rw [if_neg c2]; exact ⟨fun q => absurd rfl q, fun q => absurd q.2 c2⟩
theorem fromKind_L {z : RT} (kd : Int32) : ∀ (k : Nat) (i : Int32) (y : ST), (0 ≤ i.toInt ∧ i.toInt ≤ 40 ∧ 40 - i.toInt < (k : Int)) → Rel y z → (∀ j : Nat, (j : Int) < i.toInt → (srcK z kd j → q_co y j = 0) ∧ (¬ srcK z kd j → q_co y j = 1000000000)) → ∃ y', Rel y' z ∧ (∀ j : Nat, j < 40 → (srcK z kd j → q_co y' j = 0) ∧ (¬ srcK z kd j → q_co y' j = 1000000000)) ∧ (L_Search_spreadFromKind kd k i y).2 = (g_Search_spread y' 0).2 := by
  intro k
  induction k with
  | zero => intro i y hi; exact absurd hi.2.2 (by have := hi.2.1; omega)
  | succ k ih =>
    intro i y hi h hf
    rw [L_Search_spreadFromKind_s]
    by_cases c : 40 ≤ i
    · rw [if_pos c]
      rw [Int32.le_iff_toInt_le, show (40 : Int32).toInt = 40 from rfl] at c
      exact ⟨y, h, fun j hj => hf j (by omega), rfl⟩
    · rw [if_neg c]
      have hi1 : (i + 1).toInt = i.toInt + 1 := inc1 (by omega)
      have hci := cl_nn hi.1
      have hk := kindC h kd hi.1
      by_cases c2 : f_Rooms_isOfKind y i kd = 0
      · rw [if_pos c2]
        refine ih _ _ (lp_inc40 hi c) (h.co _) (fun j hj => ?_)
        show (_ → upd (q_co y) i.toNatClampNeg 1000000000 j = 0) ∧ (_ → upd (q_co y) i.toNatClampNeg 1000000000 j = 1000000000)
        by_cases e : j = i.toNatClampNeg
        · rw [e, upd_eq]; exact ⟨fun q => absurd c2 (hk.mpr q), fun _ => rfl⟩
        · rw [upd_ne e]; exact hf j (by omega)
      · rw [if_neg c2]
        refine ih _ _ (lp_inc40 hi c) (h.co _) (fun j hj => ?_)
        show (_ → upd (q_co y) i.toNatClampNeg 0 j = 0) ∧ (_ → upd (q_co y) i.toNatClampNeg 0 j = 1000000000)
        by_cases e : j = i.toNatClampNeg
        · rw [e, upd_eq]; exact ⟨fun _ => rfl, fun q => absurd (hk.mp c2) q⟩
        · rw [upd_ne e]; exact hf j (by omega)
theorem fromKind {x : ST} {z : RT} (h : Rel x z) (kd : Int32) : Rel (g_Search_spreadFromKind x kd).2 z ∧ cb (g_Search_spreadFromKind x kd).2 ∧ SV (ER z 0) (WC z) (srcK z kd) INFn (lfn INFn (q_co (g_Search_spreadFromKind x kd).2)) := by
  obtain ⟨y, q1, q2, e⟩ := fromKind_L (z := z) kd 41 0 x (by decide) h (fun j hj => absurd hj (by rw [show (0 : Int32).toInt = 0 from rfl]; omega))
  have e : (g_Search_spreadFromKind x kd).2 = (g_Search_spread y 0).2 := e
  rw [e]
  have hI := h.2.1.1
  refine spread_SV 0 q1 (fun j hj => ?_) (start_I (fun v hv => ?_) (fun v hv => ?_))
  · by_cases c : srcK z kd j
    · rw [(q2 j hj).1 c]; decide
    · rw [(q2 j hj).2 c]; decide
  · have hv40 : v < 40 := by have := hv.1; omega
    unfold lfn
    rw [if_pos hv40, (q2 v hv40).1 hv]; rfl
  · unfold lfn
    by_cases hj : v < 40
    · rw [if_pos hj, (q2 v hj).2 hv]; rfl
    · rw [if_neg hj]
