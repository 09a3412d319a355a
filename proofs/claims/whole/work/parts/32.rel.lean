/-! class and reference side by side: the relation, and the methods that walk no ways -/
def RelE (x : ST) (z : RT) : Prop := q_fl x = q_m_floor z ∧ q_kd x = q_m_kind z ∧ q_hz x = q_m_hazard z ∧ q_rn x = q_m_rooms z ∧ q_da x = q_m_from z ∧ q_db x = q_m_to z ∧ q_dk x = q_m_lock z ∧ q_dn x = q_m_doors z ∧ q_kh x = q_m_hand z ∧ q_rd x = q_m_way z ∧ q_rl x = q_m_steps z ∧ q_rs x = q_m_stairs z ∧ q_re x = q_m_end z ∧ q_tl x = q_m_loop z ∧ q_tn x = q_m_number z ∧ q_tr x = q_m_watched z ∧ q_tc x = q_m_detectors z ∧ q_pa x = q_m_rowFrom z ∧ q_pb x = q_m_rowTo z ∧ q_pn x = q_m_rowMany z ∧ q_pc x = q_m_rows z ∧ q_wx x = q_m_windowX z ∧ q_wy x = q_m_windowY z ∧ q_wz x = q_m_windowZ z ∧ q_wc x = q_m_windows z ∧ q_ld x = q_m_looked z ∧ q_lt x = q_m_term z
def kcnt (f : Nat → Int32) : Nat → Nat
  | 0 => 0
  | n + 1 => kcnt f n + (if f (n + 1) = 0 then 0 else 1)
def RelC (x : ST) (z : RT) : Prop :=
  (∀ j : Nat, (j : Int) < (q_m_doors z).toInt → (q_dc x j).toInt = 64 * (q_m_metres z j).toInt + (stR (q_m_floor z) (q_m_from z) (q_m_to z) j : Nat)) ∧
  (∀ j : Nat, (j : Int) < (q_m_rows z).toInt → q_pf x j = q_m_floor z (q_m_rowRoom z j).toNatClampNeg) ∧
  (∀ j : Nat, (j : Int) < (q_m_rooms z).toInt → 0 ≤ (q_m_kind z j).toInt ∧ (q_m_kind z j).toInt ≤ 2) ∧
  (∀ i j : Nat, i < j → (j : Int) < (q_m_detectors z).toInt → ¬ (q_m_loop z i = q_m_loop z j ∧ q_m_number z i = q_m_number z j)) ∧
  (∀ j : Nat, (j : Int) < (q_m_detectors z).toInt → 0 ≤ (q_m_watched z j).toInt) ∧
  (∀ j : Nat, q_m_hand z j = 0 ∨ q_m_hand z j = 1) ∧
  (q_kn x).toInt = (kcnt (q_m_hand z) 30 : Nat) ∧ 0 ≤ (q_m_looked z).toInt ∧
  (∀ j : Nat, (j : Int) < (q_m_rooms z).toInt → 0 ≤ (q_m_floor z j).toInt ∧ (q_m_floor z j).toInt ≤ 19)
def Rel (x : ST) (z : RT) : Prop := RelE x z ∧ RIn z ∧ RM z ∧ RelC x z
theorem Rel.cin {x : ST} {z : RT} (h : Rel x z) : CIn x := by
  obtain ⟨hE, hI, -, -⟩ := h
  obtain ⟨e_fl, e_kd, e_hz, e_rn, e_da, e_db, e_dk, e_dn, e_kh, e_rd, e_rl, e_rs, e_re, e_tl, e_tn, e_tr, e_tc, e_pa, e_pb, e_pn, e_pc, e_wx, e_wy, e_wz, e_wc, e_ld, e_lt⟩ := hE
  unfold CIn
  rw [e_rn, e_dn, e_tc, e_pc, e_wc, e_rl]
  exact ⟨hI.1, hI.2.1, hI.2.2.1, hI.2.2.2.1, hI.2.2.2.2.1, hI.2.2.2.2.2.1⟩
theorem Rel.thr {x : ST} {z : RT} (h : Rel x z) (v : Int32) : Rel x (s_m_thrown z v) := h
theorem Rel.least {x : ST} {z : RT} (h : Rel x z) (f : Nat → Int32) : Rel x (s_m_least z f) := h
theorem Rel.co {x : ST} {z : RT} (h : Rel x z) (f : Nat → Int32) : Rel (s_co x f) z := h
def RG (v : Int32) (x : ST) (q : Int32 × RT) (A : Prop) : Prop := q_m_thrown q.2 = v ∧ A ∧ Rel x q.2
theorem RG.thrown {x : ST} {z : RT} {q : Int32 × RT} {A : Prop} {v : Int32} (h : Rel x z) (a : Int32) (e : q = (a, s_m_thrown z v)) (hA : A) : RG v x q A := by
  rw [e]
  exact ⟨(qR_m_thrown z v).2.2.2.2.2.2.2.2.2.2.2.2.2.2.2.2.2.2.2.2.1, hA, h.thr v⟩
theorem thw1 (z : RT) (b c d : Int32) : g_Mod_throwing z 1 b c d = (1, s_m_thrown z 1) := rfl
theorem thw2 (z : RT) (c d : Int32) : g_Mod_throwing z 0 1 c d = (1, s_m_thrown z 2) := rfl
theorem thw3 (z : RT) (d : Int32) : g_Mod_throwing z 0 0 1 d = (1, s_m_thrown z 3) := rfl
theorem thw4 (z : RT) : g_Mod_throwing z 0 0 0 1 = (1, s_m_thrown z 4) := rfl
theorem thw0 (z : RT) : g_Mod_throwing z 0 0 0 0 = (0, s_m_thrown z 0) := rfl
theorem i10 : ((1 : Int32) = 0) = False := eq_false (by decide)
theorem n10 : ((1 : Nat) = 0) = False := eq_false (by decide)
theorem n20 : ((2 : Nat) = 0) = False := eq_false (by decide)
theorem n30 : ((3 : Nat) = 0) = False := eq_false (by decide)
theorem n40 : ((4 : Nat) = 0) = False := eq_false (by decide)
theorem n21 : ((2 : Nat) = 1) = False := eq_false (by decide)
theorem n31 : ((3 : Nat) = 1) = False := eq_false (by decide)
theorem n41 : ((4 : Nat) = 1) = False := eq_false (by decide)
theorem n32 : ((3 : Nat) = 2) = False := eq_false (by decide)
theorem n42 : ((4 : Nat) = 2) = False := eq_false (by decide)
theorem n43 : ((4 : Nat) = 3) = False := eq_false (by decide)
theorem kadd : k_Plan_wantAdded (-1) = 4 := rfl
theorem w_in (a b c : Int32) : k_Plan_wantWithin a b c = if f_Mod_in a b c = 0 then 2 else 0 := by
  unfold k_Plan_wantWithin f_Mod_in
  by_cases h1 : a < b
  · rw [if_pos h1, if_pos h1]; rfl
  · rw [if_neg h1, if_neg h1]
    by_cases h2 : c < a
    · rw [if_pos h2, if_neg (fun h => by rw [Int32.le_iff_toInt_le] at h; rw [Int32.lt_iff_toInt_lt] at h2; omega)]; rfl
    · rw [if_neg h2, if_pos (by rw [Int32.le_iff_toInt_le]; rw [Int32.lt_iff_toInt_lt] at h2; omega)]; rfl
theorem w_kind (a : Int32) : k_Plan_wantKind a = if f_Mod_in a 0 2 = 0 then 1 else 0 := by
  unfold k_Plan_wantKind f_Mod_in
  by_cases h1 : a < 0
  · rw [if_pos h1, if_pos h1]; rfl
  · rw [if_neg h1, if_neg h1]
    by_cases h2 : 2 < a
    · rw [if_pos h2, if_neg (fun h => by rw [Int32.le_iff_toInt_le] at h; rw [Int32.lt_iff_toInt_lt] at h2; omega)]; rfl
    · rw [if_neg h2, if_pos (by rw [Int32.le_iff_toInt_le]; rw [Int32.lt_iff_toInt_lt] at h2; omega)]; rfl
theorem w_has {n a : Int32} (hn : 0 ≤ n.toInt ∧ n.toInt ≤ 1000) : (if a < 0 then (0 : Int32) else (if n ≤ a then 0 else 1)) = f_Mod_in a 0 (n - 1) := by
  unfold f_Mod_in
  have e : (n - 1).toInt = n.toInt - 1 := by
    rw [Int32.toInt_sub, show (1 : Int32).toInt = 1 from rfl]
    exact Int.bmod_eq_of_le (by omega) (by omega)
  by_cases h1 : a < 0
  · rw [if_pos h1, if_pos h1]
  · rw [if_neg h1, if_neg h1]
    by_cases h2 : n ≤ a
    · rw [if_pos h2, if_pos (by rw [Int32.le_iff_toInt_le] at h2; rw [Int32.lt_iff_toInt_lt]; omega)]
    · rw [if_neg h2, if_neg (fun h => by rw [Int32.le_iff_toInt_le] at h2; rw [Int32.lt_iff_toInt_lt] at h; omega)]
theorem w_hasR {x : ST} {z : RT} (h : Rel x z) (a : Int32) : f_Rooms_has x a = f_Mod_isRoom z a := by
  obtain ⟨hE, hI, -, -⟩ := h
  obtain ⟨e_fl, e_kd, e_hz, e_rn, e_da, e_db, e_dk, e_dn, e_kh, e_rd, e_rl, e_rs, e_re, e_tl, e_tn, e_tr, e_tc, e_pa, e_pb, e_pn, e_pc, e_wx, e_wy, e_wz, e_wc, e_ld, e_lt⟩ := hE
  unfold f_Rooms_has f_Mod_isRoom
  rw [e_rn]
  exact w_has (by have := hI.1; omega)
theorem w_room {x : ST} {z : RT} (h : Rel x z) (a : Int32) : k_Plan_wantRoom x a = if f_Mod_isRoom z a = 0 then 1 else 0 := by
  unfold k_Plan_wantRoom
  rw [w_hasR h]
theorem w_hasW {x : ST} {z : RT} (h : Rel x z) (a : Int32) : f_Win_has x a = f_Mod_in a 0 (q_m_windows z - 1) := by
  obtain ⟨hE, hI, -, -⟩ := h
  obtain ⟨e_fl, e_kd, e_hz, e_rn, e_da, e_db, e_dk, e_dn, e_kh, e_rd, e_rl, e_rs, e_re, e_tl, e_tn, e_tr, e_tc, e_pa, e_pb, e_pn, e_pc, e_wx, e_wy, e_wz, e_wc, e_ld, e_lt⟩ := hE
  unfold f_Win_has
  rw [e_wc]
  exact w_has (by have := hI.2.2.2.2.1; omega)
theorem w_win {x : ST} {z : RT} (h : Rel x z) (a : Int32) : k_Plan_wantWindow x a = if f_Mod_in a 0 (q_m_windows z - 1) = 0 then 1 else 0 := by
  unfold k_Plan_wantWindow
  rw [w_hasW h]
theorem w_pt (a b c : Int32) : k_Plan_wantPoint a b c = if f_Mod_isPoint a b c = 0 then 2 else 0 := by
  unfold k_Plan_wantPoint f_Mod_isPoint
  rw [w_in, w_in, w_in]
  by_cases h1 : f_Mod_in a (-200000) 200000 = 0
  · simp only [h1, ↓reduceIte, n20]
  by_cases h2 : f_Mod_in b (-200000) 200000 = 0
  · simp only [h1, h2, ↓reduceIte, n20]
  by_cases h3 : f_Mod_in c (-200000) 200000 = 0
  · simp only [h1, h2, h3, ↓reduceIte, n20]
  · simp only [h1, h2, h3, ↓reduceIte, i10]
theorem w_key (x : ST) (a : Int32) : f_Keys_has x a = f_Mod_in a 1 30 := by
  unfold f_Keys_has f_Mod_in
  by_cases h1 : a < 1
  · rw [if_pos h1, if_pos (by rw [Int32.lt_iff_toInt_lt] at h1; rw [Int32.le_iff_toInt_le]; have e : (1 : Int32).toInt = 1 := rfl; have e' : (0 : Int32).toInt = 0 := rfl; omega)]
  · rw [if_neg h1, if_neg (fun h => h1 (by rw [Int32.lt_iff_toInt_lt]; rw [Int32.le_iff_toInt_le] at h; have e : (1 : Int32).toInt = 1 := rfl; have e' : (0 : Int32).toInt = 0 := rfl; omega))]
theorem in_iff (a b c : Int32) : ¬ f_Mod_in a b c = 0 ↔ b.toInt ≤ a.toInt ∧ a.toInt ≤ c.toInt := by
  unfold f_Mod_in
  by_cases h1 : a < b
  · rw [if_pos h1]; rw [Int32.lt_iff_toInt_lt] at h1
    exact ⟨fun h => absurd rfl h, fun h => by omega⟩
  · rw [if_neg h1]
    by_cases h2 : c < a
    · rw [if_pos h2]; rw [Int32.lt_iff_toInt_lt] at h2
      exact ⟨fun h => absurd rfl h, fun h => by omega⟩
    · rw [if_neg h2]; rw [Int32.lt_iff_toInt_lt] at h1 h2
      exact ⟨fun _ => by omega, fun _ => by decide⟩
theorem isR_iff {z : RT} (hI : RIn z) (a : Int32) : ¬ f_Mod_isRoom z a = 0 ↔ 0 ≤ a.toInt ∧ a.toInt < (q_m_rooms z).toInt := by
  unfold f_Mod_isRoom
  rw [in_iff]
  have e : (q_m_rooms z - 1).toInt = (q_m_rooms z).toInt - 1 := by
    have := hI.1
    rw [Int32.toInt_sub, show (1 : Int32).toInt = 1 from rfl]
    exact Int.bmod_eq_of_le (by omega) (by omega)
  rw [e, show (0 : Int32).toInt = 0 from rfl]
  omega
theorem upd_ne {f : Nat → Int32} {i j : Nat} {v : Int32} (h : j ≠ i) : upd f i v j = f j := if_neg h
theorem upd_eq {f : Nat → Int32} {i : Nat} {v : Int32} : upd f i v i = v := if_pos rfl
theorem inc1 {n : Int32} (h : 0 ≤ n.toInt ∧ n.toInt ≤ 1000) : (n + 1).toInt = n.toInt + 1 := by
  rw [Int32.toInt_add, show (1 : Int32).toInt = 1 from rfl]
  exact Int.bmod_eq_of_le (by omega) (by omega)
theorem lt_lit {n m : Int32} (h : n.toInt ≤ m.toInt) : n < m ↔ ¬ n = m := by
  rw [Int32.lt_iff_toInt_lt]
  exact ⟨fun h1 h2 => by rw [h2] at h1; omega, fun h1 => by
    have : n.toInt ≠ m.toInt := fun h2 => h1 (Int32.toInt_inj.mp h2)
    omega⟩
set_option maxHeartbeats 1000000 in
theorem R_step {x : ST} {z : RT} (h : Rel x z) (a1 : Int32) : RG (hv_step x a1) (hs_step x a1) (g_Mod_step z a1) (k_Plan_step x a1 = 0 → f_Plan_step x a1 = (g_Mod_step z a1).1) := by
  have hE := h.1
  obtain ⟨e_fl, e_kd, e_hz, e_rn, e_da, e_db, e_dk, e_dn, e_kh, e_rd, e_rl, e_rs, e_re, e_tl, e_tn, e_tr, e_tc, e_pa, e_pb, e_pn, e_pc, e_wx, e_wy, e_wz, e_wc, e_ld, e_lt⟩ := hE
  by_cases c1 : 0 ≤ a1
  rotate_left
  · have hk : k_Plan_step x a1 = 2 := by simp only [k_Plan_step, k_Plan_wantNotBelowZero, c1, ↓reduceIte, not_true_eq_false, not_false_eq_true, n10, n20, n30, n40, n21, n31, n41, n32, n42, n43, kadd, i10]
    have e : g_Mod_step z a1 = (0, s_m_thrown z 1) := by simp only [g_Mod_step,  c1, ↓reduceIte, thw1, thw2, thw3, thw4, not_true_eq_false, not_false_eq_true, n10, n20, n30, n40, n21, n31, n41, n32, n42, n43, kadd, i10]
    have hv : hv_step x a1 = 1 := by simp only [hv_step, hk, ↓reduceIte, not_true_eq_false, not_false_eq_true, n10, n20, n30, n40, n21, n31, n41, n32, n42, n43, kadd, i10]
    have hs : hs_step x a1 = x := by simp only [hs_step, hk, ↓reduceIte, not_true_eq_false, not_false_eq_true, n10, n20, n30, n40, n21, n31, n41, n32, n42, n43, kadd, i10]
    rw [hv, hs]
    exact RG.thrown h _ e (fun hq => absurd (hk.symm.trans hq) (by decide))
  have hk : k_Plan_step x a1 = 0 := by simp only [k_Plan_step, k_Plan_wantNotBelowZero, c1, ↓reduceIte, not_true_eq_false, not_false_eq_true, n10, n20, n30, n40, n21, n31, n41, n32, n42, n43, kadd, i10]
  have hv : hv_step x a1 = 0 := by simp only [hv_step, hk, ↓reduceIte, not_true_eq_false, not_false_eq_true, n10, n20, n30, n40, n21, n31, n41, n32, n42, n43, kadd, i10]
  have e : g_Mod_step z a1 = (f_Plan_step x a1, s_m_thrown z 0) := by
    have hc : ¬ a1 < 0 := fun hq => by rw [Int32.le_iff_toInt_le] at c1; rw [Int32.lt_iff_toInt_lt] at hq; omega
    simp only [g_Mod_step, f_Plan_step, k_Plan_wantNotBelowZero, f_Route_doorAt, c1, hc, ↓reduceIte, thw0, qR_m_thrown, e_rl, e_rd]
    by_cases c2 : q_m_steps z ≤ a1
    · simp only [c2, ↓reduceIte]
    · simp only [c2, ↓reduceIte]
  have hs : hs_step x a1 = x := by simp only [hs_step, hk, ↓reduceIte]
  rw [hv, hs]
  exact RG.thrown h _ e (fun _ => by rw [e])
theorem in02 {a : Int32} (h : ¬ f_Mod_in a 0 2 = 0) : a = 0 ∨ a = 1 ∨ a = 2 := by
  rw [in_iff, show (0 : Int32).toInt = 0 from rfl, show (2 : Int32).toInt = 2 from rfl] at h
  rcases (by omega : a.toInt = 0 ∨ a.toInt = 1 ∨ a.toInt = 2) with e | e | e
  · exact Or.inl (Int32.toInt_inj.mp e)
  · exact Or.inr (Or.inl (Int32.toInt_inj.mp e))
  · exact Or.inr (Or.inr (Int32.toInt_inj.mp e))
theorem in04 {a : Int32} (h : ¬ f_Mod_in a 0 4 = 0) : a = 0 ∨ a = 1 ∨ a = 2 ∨ a = 3 ∨ a = 4 := by
  rw [in_iff, show (0 : Int32).toInt = 0 from rfl, show (4 : Int32).toInt = 4 from rfl] at h
  rcases (by omega : a.toInt = 0 ∨ a.toInt = 1 ∨ a.toInt = 2 ∨ a.toInt = 3 ∨ a.toInt = 4) with e | e | e | e | e
  · exact Or.inl (Int32.toInt_inj.mp e)
  · exact Or.inr (Or.inl (Int32.toInt_inj.mp e))
  · exact Or.inr (Or.inr (Or.inl (Int32.toInt_inj.mp e)))
  · exact Or.inr (Or.inr (Or.inr (Or.inl (Int32.toInt_inj.mp e))))
  · exact Or.inr (Or.inr (Or.inr (Or.inr (Int32.toInt_inj.mp e))))
theorem k_told (x : ST) (a : Int32) : k_Plan_told x a = if f_Mod_in a 0 2 = 0 then 1 else 0 := by
  by_cases h : f_Mod_in a 0 2 = 0
  · rw [if_pos h]
    unfold k_Plan_told
    rw [if_neg (fun e => by rw [e] at h; exact absurd h (by decide)), if_neg (fun e => by rw [e] at h; exact absurd h (by decide)), if_neg (fun e => by rw [e] at h; exact absurd h (by decide))]
  · rw [if_neg h]
    rcases in02 h with e | e | e <;> rw [e] <;> rfl
theorem k_count (x : ST) (a : Int32) : k_Plan_count x a = if f_Mod_in a 0 4 = 0 then 1 else 0 := by
  by_cases h : f_Mod_in a 0 4 = 0
  · rw [if_pos h]
    unfold k_Plan_count
    rw [if_neg (fun e => by rw [e] at h; exact absurd h (by decide)), if_neg (fun e => by rw [e] at h; exact absurd h (by decide)), if_neg (fun e => by rw [e] at h; exact absurd h (by decide)), if_neg (fun e => by rw [e] at h; exact absurd h (by decide)), if_neg (fun e => by rw [e] at h; exact absurd h (by decide))]
  · rw [if_neg h]
    rcases in04 h with e | e | e | e | e <;> rw [e] <;> rfl
theorem k_inside (x : ST) (a b : Int32) : k_Plan_inside x a b = if f_Mod_in a (-1) 19 = 0 then 1 else (if f_Mod_in b 0 23 = 0 then 2 else 0) := by
  unfold k_Plan_inside
  rw [w_in]
  by_cases h : f_Mod_in a (-1) 19 = 0
  · rw [if_pos h]
    unfold f_Mod_in at h
    by_cases h1 : a < -1
    · rw [if_pos h1]
    · rw [if_neg h1] at h ⊢
      by_cases h2 : 19 < a
      · rw [if_neg (fun h => by rw [Int32.le_iff_toInt_le] at h; rw [Int32.lt_iff_toInt_lt] at h2; omega)]
      · rw [if_neg h2] at h; exact absurd h (by decide)
  · rw [if_neg h]
    rw [in_iff] at h
    rw [if_neg (fun h1 => by rw [Int32.lt_iff_toInt_lt] at h1; omega), if_pos (by rw [Int32.le_iff_toInt_le]; omega)]
    by_cases h2 : f_Mod_in b 0 23 = 0
    · simp only [h2, ↓reduceIte, n20]
    · simp only [h2, ↓reduceIte]
theorem i20 : ((2 : Int32) = 0) = False := eq_false (by decide)
theorem i21 : ((2 : Int32) = 1) = False := eq_false (by decide)
theorem i30 : ((3 : Int32) = 0) = False := eq_false (by decide)
theorem i31 : ((3 : Int32) = 1) = False := eq_false (by decide)
theorem i32 : ((3 : Int32) = 2) = False := eq_false (by decide)
theorem i40 : ((4 : Int32) = 0) = False := eq_false (by decide)
theorem i41 : ((4 : Int32) = 1) = False := eq_false (by decide)
theorem i42 : ((4 : Int32) = 2) = False := eq_false (by decide)
theorem i43 : ((4 : Int32) = 3) = False := eq_false (by decide)
set_option maxHeartbeats 1000000 in
theorem R_told {x : ST} {z : RT} (h : Rel x z) (a1 : Int32) : RG (hv_told x a1) (hs_told x a1) (g_Mod_told z a1) (k_Plan_told x a1 = 0 → f_Plan_told x a1 = (g_Mod_told z a1).1) := by
  have hE := h.1
  obtain ⟨e_fl, e_kd, e_hz, e_rn, e_da, e_db, e_dk, e_dn, e_kh, e_rd, e_rl, e_rs, e_re, e_tl, e_tn, e_tr, e_tc, e_pa, e_pb, e_pn, e_pc, e_wx, e_wy, e_wz, e_wc, e_ld, e_lt⟩ := hE
  by_cases c1 : f_Mod_in a1 0 2 = 0
  · have hk : k_Plan_told x a1 = 1 := by simp only [k_told, c1, ↓reduceIte, not_true_eq_false, not_false_eq_true, n10, n20, n30, n40, n21, n31, n41, n32, n42, n43, kadd, i10]
    have e : g_Mod_told z a1 = (0, s_m_thrown z 1) := by simp only [g_Mod_told,  c1, ↓reduceIte, thw1, thw2, thw3, thw4, not_true_eq_false, not_false_eq_true, n10, n20, n30, n40, n21, n31, n41, n32, n42, n43, kadd, i10]
    have hv : hv_told x a1 = 1 := by simp only [hv_told, hk, ↓reduceIte, not_true_eq_false, not_false_eq_true, n10, n20, n30, n40, n21, n31, n41, n32, n42, n43, kadd, i10]
    have hs : hs_told x a1 = x := by simp only [hs_told, hk, ↓reduceIte, not_true_eq_false, not_false_eq_true, n10, n20, n30, n40, n21, n31, n41, n32, n42, n43, kadd, i10]
    rw [hv, hs]
    exact RG.thrown h _ e (fun hq => absurd (hk.symm.trans hq) (by decide))
  have hk : k_Plan_told x a1 = 0 := by simp only [k_told, c1, ↓reduceIte, not_true_eq_false, not_false_eq_true, n10, n20, n30, n40, n21, n31, n41, n32, n42, n43, kadd, i10]
  have hv : hv_told x a1 = 0 := by simp only [hv_told, hk, ↓reduceIte, not_true_eq_false, not_false_eq_true, n10, n20, n30, n40, n21, n31, n41, n32, n42, n43, kadd, i10]
  have e : g_Mod_told z a1 = (f_Plan_told x a1, s_m_thrown z 0) := by
    simp only [g_Mod_told, f_Plan_told, c1, ↓reduceIte, thw0, qR_m_thrown, e_rl, e_rs, e_re]
    rcases in02 c1 with c | c | c <;> simp only [c, ↓reduceIte, i10, i20, i21, i30, i31, i32, i40, i41, i42, i43]
  have hs : hs_told x a1 = x := by simp only [hs_told, hk, ↓reduceIte]
  rw [hv, hs]
  exact RG.thrown h _ e (fun _ => by rw [e])
theorem L_det (z : RT) (a b : Int32) (hI : RIn z) (hd : ∀ i j : Nat, i < j → (j : Int) < (q_m_detectors z).toInt → ¬ (q_m_loop z i = q_m_loop z j ∧ q_m_number z i = q_m_number z j)) (hw : ∀ j : Nat, (j : Int) < (q_m_detectors z).toInt → 0 ≤ (q_m_watched z j).toInt) (x : ST) (e1 : q_tc x = q_m_detectors z) (e2 : q_tl x = q_m_loop z) (e3 : q_tn x = q_m_number z) (e4 : q_tr x = q_m_watched z) :
    ∀ (k : Nat) (i : Int32), (0 ≤ i.toInt ∧ i.toInt ≤ (q_m_detectors z).toInt ∧ (q_m_detectors z).toInt - i.toInt < (k : Int)) →
    (L_Det_roomOf x a b k i = -1 ∧ ∀ fd, L_Mod_detectorOf z a b k fd i = fd) ∨ ∃ j : Int32, i.toInt ≤ j.toInt ∧ j.toInt < (q_m_detectors z).toInt ∧ (q_m_loop z j.toNatClampNeg = a ∧ q_m_number z j.toNatClampNeg = b) ∧ L_Det_roomOf x a b k i = q_m_watched z j.toNatClampNeg ∧ ∀ fd, L_Mod_detectorOf z a b k fd i = j := by
  intro k
  induction k with
  | zero => intro i hi; exact absurd hi.2.2 (by have := hi.2.1; omega)
  | succ k ih =>
    intro i hi
    have E1 : L_Det_roomOf x a b (k + 1) i = if (q_m_detectors z) ≤ i then (-1) else (if ((q_m_loop z) i.toNatClampNeg) = a then (if ((q_m_number z) i.toNatClampNeg) = b then (q_m_watched z) i.toNatClampNeg else L_Det_roomOf x a b k (i + 1)) else L_Det_roomOf x a b k (i + 1)) := by
      rw [← e1, ← e2, ← e3, ← e4]; rfl
    by_cases h1 : q_m_detectors z ≤ i
    · left
      rw [E1, if_pos h1]
      exact ⟨rfl, fun fd => by rw [L_Mod_detectorOf_s, if_pos h1]⟩
    have hn := lp_inc hi h1 (N := 100) hI.2.2.1.2 (by decide)
    have hi1 : (i + 1).toInt = i.toInt + 1 := inc1 (by have := hI.2.2.1; omega)
    have h1' : i.toInt < (q_m_detectors z).toInt := by rw [Int32.le_iff_toInt_le] at h1; omega
    have hci := cl_nn hi.1
    by_cases h2 : q_m_loop z i.toNatClampNeg = a ∧ q_m_number z i.toNatClampNeg = b
    · right
      refine ⟨i, Int.le_refl _, h1', h2, ?_, fun fd => ?_⟩
      · rw [E1, if_neg h1, if_pos h2.1, if_pos h2.2]
      · rw [L_Mod_detectorOf_s, if_neg h1, if_pos h2.1, if_pos h2.2]
        rcases ih (i + 1) hn with ⟨-, q⟩ | ⟨j, q1, q2, q3, -⟩
        · exact q i
        · exfalso
          have hcj := cl_nn (a := j) (by omega)
          exact hd i.toNatClampNeg j.toNatClampNeg (by omega) (by omega) ⟨h2.1.trans q3.1.symm, h2.2.trans q3.2.symm⟩
    · have E2 : L_Det_roomOf x a b (k + 1) i = L_Det_roomOf x a b k (i + 1) := by
        rw [E1, if_neg h1]
        by_cases h3 : q_m_loop z i.toNatClampNeg = a
        · rw [if_pos h3, if_neg (fun h4 => h2 ⟨h3, h4⟩)]
        · rw [if_neg h3]
      have E3 : ∀ fd, L_Mod_detectorOf z a b (k + 1) fd i = L_Mod_detectorOf z a b k fd (i + 1) := by
        intro fd
        rw [L_Mod_detectorOf_s, if_neg h1]
        by_cases h3 : q_m_loop z i.toNatClampNeg = a
        · rw [if_pos h3, if_neg (fun h4 => h2 ⟨h3, h4⟩)]
        · rw [if_neg h3]
      rcases ih (i + 1) hn with ⟨q0, q⟩ | ⟨j, q1, q2, q3, q4, q5⟩
      · exact Or.inl ⟨E2.trans q0, fun fd => (E3 fd).trans (q fd)⟩
      · exact Or.inr ⟨j, by omega, q2, q3, E2.trans q4, fun fd => (E3 fd).trans (q5 fd)⟩
theorem det_of {x : ST} {z : RT} (h : Rel x z) (a b : Int32) : (f_Det_roomOf x a b = -1 ∧ f_Mod_detectorOf z a b < 0 ∧ ∀ j : Nat, (j : Int) < (q_m_detectors z).toInt → ¬ (q_m_loop z j = a ∧ q_m_number z j = b)) ∨ (¬ f_Det_roomOf x a b = -1 ∧ ¬ f_Mod_detectorOf z a b < 0 ∧ 0 ≤ f_Mod_detectorOf z a b ∧ f_Det_roomOf x a b = q_m_watched z (f_Mod_detectorOf z a b).toNatClampNeg) := by
  obtain ⟨hE, hI, -, hC⟩ := h
  obtain ⟨e_fl, e_kd, e_hz, e_rn, e_da, e_db, e_dk, e_dn, e_kh, e_rd, e_rl, e_rs, e_re, e_tl, e_tn, e_tr, e_tc, e_pa, e_pb, e_pn, e_pc, e_wx, e_wy, e_wz, e_wc, e_ld, e_lt⟩ := hE
  obtain ⟨-, -, -, c4, c5, -, -, -, -⟩ := hC
  rcases L_det z a b hI c4 c5 x e_tc e_tl e_tn e_tr 101 0 (lp_0 (N := 100) hI.2.2.1 (by decide)) with ⟨q1, q2⟩ | ⟨j, q1, q2, q3, q4, q5⟩
  · left
    have q2' : f_Mod_detectorOf z a b = -1 := q2 (-1)
    refine ⟨q1, by rw [q2']; decide, fun j hj hh => ?_⟩
    have key : ∀ (k : Nat) (i fd : Int32), (0 ≤ i.toInt ∧ i.toInt ≤ (q_m_detectors z).toInt ∧ (q_m_detectors z).toInt - i.toInt < (k : Int)) → (i.toInt ≤ j ∨ 0 ≤ fd.toInt) → 0 ≤ (L_Mod_detectorOf z a b k fd i).toInt := by
      intro k
      induction k with
      | zero => intro i fd hi; exact absurd hi.2.2 (by have := hi.2.1; omega)
      | succ k ih =>
        intro i fd hi hf
        rw [L_Mod_detectorOf_s]
        by_cases h1 : q_m_detectors z ≤ i
        · rw [if_pos h1]
          rw [Int32.le_iff_toInt_le] at h1
          rcases hf with hf | hf
          · omega
          · exact hf
        rw [if_neg h1]
        have hn := lp_inc hi h1 (N := 100) hI.2.2.1.2 (by decide)
        have hi1 : (i + 1).toInt = i.toInt + 1 := inc1 (by have := hI.2.2.1; omega)
        have hci := cl_nn hi.1
        by_cases h2 : q_m_loop z i.toNatClampNeg = a
        · rw [if_pos h2]
          by_cases h3 : q_m_number z i.toNatClampNeg = b
          · rw [if_pos h3]; exact ih _ _ hn (Or.inr hi.1)
          · rw [if_neg h3]
            refine ih _ _ hn ?_
            rcases hf with hf | hf
            · by_cases e : i.toInt = j
              · exfalso
                have : i.toNatClampNeg = j := by omega
                rw [this] at h3; exact h3 hh.2
              · exact Or.inl (by omega)
            · exact Or.inr hf
        · rw [if_neg h2]
          refine ih _ _ hn ?_
          rcases hf with hf | hf
          · by_cases e : i.toInt = j
            · exfalso
              have : i.toNatClampNeg = j := by omega
              rw [this] at h2; exact h2 hh.1
            · exact Or.inl (by omega)
          · exact Or.inr hf
    have := key 101 0 (-1) (lp_0 (N := 100) hI.2.2.1 (by decide)) (Or.inl (by rw [show (0 : Int32).toInt = 0 from rfl]; omega))
    rw [q2 (-1)] at this
    exact absurd this (by decide)
  · right
    have q5' : f_Mod_detectorOf z a b = j := q5 (-1)
    have q4' : f_Det_roomOf x a b = q_m_watched z j.toNatClampNeg := q4
    rw [q5', q4']
    rw [show (0 : Int32).toInt = 0 from rfl] at q1
    have hcj := cl_nn q1
    have h5 := c5 j.toNatClampNeg (by omega)
    refine ⟨fun hq => by rw [hq] at h5; exact absurd h5 (by decide), fun hq => by rw [Int32.lt_iff_toInt_lt, show (0 : Int32).toInt = 0 from rfl] at hq; omega, by rw [Int32.le_iff_toInt_le, show (0 : Int32).toInt = 0 from rfl]; exact q1, rfl⟩
set_option maxHeartbeats 1000000 in
theorem R_alarm {x : ST} {z : RT} (h : Rel x z) (a1 a2 : Int32) : RG (hv_alarm x a1 a2) (hs_alarm x a1 a2) (g_Mod_alarm z a1 a2) (k_Plan_alarm x a1 a2 = 0 → f_Plan_alarm x a1 a2 = (g_Mod_alarm z a1 a2).1) := by
  have hE := h.1
  obtain ⟨e_fl, e_kd, e_hz, e_rn, e_da, e_db, e_dk, e_dn, e_kh, e_rd, e_rl, e_rs, e_re, e_tl, e_tn, e_tr, e_tc, e_pa, e_pb, e_pn, e_pc, e_wx, e_wy, e_wz, e_wc, e_ld, e_lt⟩ := hE
  by_cases c1 : f_Mod_in a1 1 9 = 0
  · have hk : k_Plan_alarm x a1 a2 = 2 := by simp only [k_Plan_alarm, w_in, ite_self, c1, ↓reduceIte, not_true_eq_false, not_false_eq_true, n10, n20, n30, n40, n21, n31, n41, n32, n42, n43, kadd, i10]
    have e : g_Mod_alarm z a1 a2 = (0, s_m_thrown z 1) := by simp only [g_Mod_alarm, f_Mod_isDetector, c1, ↓reduceIte, thw1, thw2, thw3, thw4, not_true_eq_false, not_false_eq_true, n10, n20, n30, n40, n21, n31, n41, n32, n42, n43, kadd, i10]
    have hv : hv_alarm x a1 a2 = 1 := by simp only [hv_alarm, hk, ↓reduceIte, not_true_eq_false, not_false_eq_true, n10, n20, n30, n40, n21, n31, n41, n32, n42, n43, kadd, i10]
    have hs : hs_alarm x a1 a2 = x := by simp only [hs_alarm, hk, ↓reduceIte, not_true_eq_false, not_false_eq_true, n10, n20, n30, n40, n21, n31, n41, n32, n42, n43, kadd, i10]
    rw [hv, hs]
    exact RG.thrown h _ e (fun hq => absurd (hk.symm.trans hq) (by decide))
  by_cases c2 : f_Mod_in a2 1 99 = 0
  · have hk : k_Plan_alarm x a1 a2 = 2 := by simp only [k_Plan_alarm, w_in, ite_self, c1, c2, ↓reduceIte, not_true_eq_false, not_false_eq_true, n10, n20, n30, n40, n21, n31, n41, n32, n42, n43, kadd, i10]
    have e : g_Mod_alarm z a1 a2 = (0, s_m_thrown z 1) := by simp only [g_Mod_alarm, f_Mod_isDetector, c1, c2, ↓reduceIte, thw1, thw2, thw3, thw4, not_true_eq_false, not_false_eq_true, n10, n20, n30, n40, n21, n31, n41, n32, n42, n43, kadd, i10]
    have hv : hv_alarm x a1 a2 = 1 := by simp only [hv_alarm, hk, ↓reduceIte, not_true_eq_false, not_false_eq_true, n10, n20, n30, n40, n21, n31, n41, n32, n42, n43, kadd, i10]
    have hs : hs_alarm x a1 a2 = x := by simp only [hs_alarm, hk, ↓reduceIte, not_true_eq_false, not_false_eq_true, n10, n20, n30, n40, n21, n31, n41, n32, n42, n43, kadd, i10]
    rw [hv, hs]
    exact RG.thrown h _ e (fun hq => absurd (hk.symm.trans hq) (by decide))
  have hk : k_Plan_alarm x a1 a2 = 0 := by simp only [k_Plan_alarm, w_in, ite_self, c1, c2, ↓reduceIte, not_true_eq_false, not_false_eq_true, n10, n20, n30, n40, n21, n31, n41, n32, n42, n43, kadd, i10]
  have hv : hv_alarm x a1 a2 = 0 := by simp only [hv_alarm, hk, ↓reduceIte, not_true_eq_false, not_false_eq_true, n10, n20, n30, n40, n21, n31, n41, n32, n42, n43, kadd, i10]
  have e : g_Mod_alarm z a1 a2 = (f_Plan_alarm x a1 a2, s_m_thrown z 0) := by
    simp only [g_Mod_alarm, f_Plan_alarm, f_Mod_isDetector, w_in, c1, c2, ↓reduceIte, i10, thw0]
    have hf : f_Mod_detectorOf (s_m_thrown z 0) a1 a2 = f_Mod_detectorOf z a1 a2 := rfl
    rw [hf]
    rcases det_of h a1 a2 with ⟨q1, q2, -⟩ | ⟨q1, q2, q3, q4⟩
    · have q3 : ¬ 0 ≤ f_Mod_detectorOf z a1 a2 := fun hq => by rw [Int32.le_iff_toInt_le] at hq; rw [Int32.lt_iff_toInt_lt] at q2; omega
      simp only [q1, q3, ↓reduceIte]
    · rw [if_pos q3, if_neg q1, q4]
      simp only [qR_m_thrown]
  have hs : hs_alarm x a1 a2 = x := by simp only [hs_alarm, hk, ↓reduceIte]
  rw [hv, hs]
  exact RG.thrown h _ e (fun _ => by rw [e])
set_option maxHeartbeats 1000000 in
theorem R_old {x : ST} {z : RT} (h : Rel x z) (a1 : Int32) : RG (hv_old x a1) (hs_old x a1) (g_Mod_old z a1) (k_Plan_old x a1 = 0 → f_Plan_old x a1 = (g_Mod_old z a1).1) := by
  have hE := h.1
  obtain ⟨e_fl, e_kd, e_hz, e_rn, e_da, e_db, e_dk, e_dn, e_kh, e_rd, e_rl, e_rs, e_re, e_tl, e_tn, e_tr, e_tc, e_pa, e_pb, e_pn, e_pc, e_wx, e_wy, e_wz, e_wc, e_ld, e_lt⟩ := hE
  by_cases c1 : f_Mod_in a1 0 99999 = 0
  · have hk : k_Plan_old x a1 = 2 := by simp only [k_Plan_old, w_in, ite_self, c1, ↓reduceIte, not_true_eq_false, not_false_eq_true, n10, n20, n30, n40, n21, n31, n41, n32, n42, n43, kadd, i10]
    have e : g_Mod_old z a1 = (0, s_m_thrown z 1) := by simp only [g_Mod_old,  c1, ↓reduceIte, thw1, thw2, thw3, thw4, not_true_eq_false, not_false_eq_true, n10, n20, n30, n40, n21, n31, n41, n32, n42, n43, kadd, i10]
    have hv : hv_old x a1 = 1 := by simp only [hv_old, hk, ↓reduceIte, not_true_eq_false, not_false_eq_true, n10, n20, n30, n40, n21, n31, n41, n32, n42, n43, kadd, i10]
    have hs : hs_old x a1 = x := by simp only [hs_old, hk, ↓reduceIte, not_true_eq_false, not_false_eq_true, n10, n20, n30, n40, n21, n31, n41, n32, n42, n43, kadd, i10]
    rw [hv, hs]
    exact RG.thrown h _ e (fun hq => absurd (hk.symm.trans hq) (by decide))
  have hk : k_Plan_old x a1 = 0 := by simp only [k_Plan_old, w_in, ite_self, c1, ↓reduceIte, not_true_eq_false, not_false_eq_true, n10, n20, n30, n40, n21, n31, n41, n32, n42, n43, kadd, i10]
  have hv : hv_old x a1 = 0 := by simp only [hv_old, hk, ↓reduceIte, not_true_eq_false, not_false_eq_true, n10, n20, n30, n40, n21, n31, n41, n32, n42, n43, kadd, i10]
  have e : g_Mod_old z a1 = (f_Plan_old x a1, s_m_thrown z 0) := by
    simp only [g_Mod_old, f_Plan_old, w_in, c1, ↓reduceIte, thw0, qR_m_thrown, e_ld, e_lt]
    by_cases c2 : a1 - q_m_looked z ≤ q_m_term z
    · simp only [c2, ↓reduceIte]
    · simp only [c2, ↓reduceIte]
  have hs : hs_old x a1 = x := by simp only [hs_old, hk, ↓reduceIte]
  rw [hv, hs]
  exact RG.thrown h _ e (fun _ => by rw [e])
