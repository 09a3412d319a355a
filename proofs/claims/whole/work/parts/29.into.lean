/-! the reference's nearest and into -/
theorem thr_M {x z : RT} (h : thr x z) (hM : RM x) : RM z := by
  obtain ⟨v, rfl⟩ := h
  exact hM
def nrOk (x : RT) (b : Int32) : Prop := b = -1 ∨ (0 ≤ b.toInt ∧ b.toInt < (q_m_rooms x).toInt ∧ (q_m_least x b.toNatClampNeg).toInt < 100000000)
theorem nr_L {x : RT} (hI : RIn x) (a1 : Int32) : ∀ (k : Nat) (bst i : Int32), nrOk x bst → (0 ≤ i.toInt ∧ i.toInt ≤ (q_m_rooms x).toInt ∧ (q_m_rooms x).toInt - i.toInt < (k : Int)) → nrOk x (L_Mod_nearest x a1 k bst i) := by
  intro k
  induction k with
  | zero => intro bst i _ hi; exact absurd hi.2.2 (by have := hi.2.1; omega)
  | succ k ih =>
    intro bst i hb hi
    rw [L_Mod_nearest_s]
    by_cases h1 : q_m_rooms x ≤ i
    · rw [if_pos h1]; exact hb
    rw [if_neg h1]
    have hn := lp_inc hi h1 hI.1.2 (by decide)
    by_cases h2 : q_m_kind x i.toNatClampNeg = a1
    · rw [if_pos h2]
      by_cases h3 : 100000000 ≤ q_m_least x i.toNatClampNeg
      · rw [if_pos h3]; exact ih _ _ hb hn
      rw [if_neg h3]
      have hbi : nrOk x i := by
        rw [Int32.le_iff_toInt_le] at h1 h3
        have e : (100000000 : Int32).toInt = 100000000 := rfl
        exact Or.inr ⟨hi.1, by omega, by omega⟩
      split
      · exact ih _ _ hbi hn
      · split
        · exact ih _ _ hb hn
        · exact ih _ _ hbi hn
    · rw [if_neg h2]; exact ih _ _ hb hn
theorem nr_ok {x : RT} (hI : RIn x) (a : Int32) : nrOk x (f_Mod_nearest x a) := nr_L hI a 41 (-1) 0 (Or.inl rfl) (lp_0 (N := 40) hI.1 (by decide))
theorem nr_pos {x : RT} (hI : RIn x) {a : Int32} (h : 0 ≤ f_Mod_nearest x a) : 0 ≤ (f_Mod_nearest x a).toInt ∧ (f_Mod_nearest x a).toInt < (q_m_rooms x).toInt ∧ (q_m_least x (f_Mod_nearest x a).toNatClampNeg).toInt < 100000000 := by
  rcases nr_ok hI a with h1 | h1
  · rw [h1] at h; exact absurd h (by decide)
  · exact h1
theorem nr_ix {x : RT} (hI : RIn x) {a : Int32} (h : 0 ≤ f_Mod_nearest x a) : vp_in (f_Mod_nearest x a) 40 := vp_in_iff.mpr (by
  have h1 := nr_pos hI h
  have h2 := hI.1
  omega)
/-- the room behind a door -/
def othR (x : RT) (u i : Int32) : Int32 := if q_m_from x i.toNatClampNeg = u then q_m_to x i.toNatClampNeg else q_m_from x i.toNatClampNeg
def hitR (x : RT) (u i : Int32) : Prop := (q_m_from x i.toNatClampNeg = u ∨ q_m_to x i.toNatClampNeg = u) ∧ ¬ f_Mod_isPassed x i = 0 ∧ q_m_least x (othR x u i).toNatClampNeg + f_Mod_costOf x i = q_m_least x u.toNatClampNeg
theorem Linto_s (x : RT) (u : Int32) (k : Nat) (i : Int32) (hc : ¬ q_m_doors x ≤ i) : (hitR x u i → L_Mod_into x u (k + 1) i = i) ∧ (¬ hitR x u i → L_Mod_into x u (k + 1) i = L_Mod_into x u k (i + 1)) := by
  rw [L_Mod_into_s, if_neg hc]
  unfold hitR othR
  by_cases h1 : q_m_from x i.toNatClampNeg = u
  · rw [if_pos h1, if_pos h1, if_pos h1]
    by_cases h2 : f_Mod_isPassed x i = 0
    · rw [if_pos h2]; exact ⟨fun h => absurd h2 h.2.1, fun _ => rfl⟩
    · rw [if_neg h2]
      by_cases h3 : q_m_least x (q_m_to x i.toNatClampNeg).toNatClampNeg + f_Mod_costOf x i = q_m_least x u.toNatClampNeg
      · rw [if_pos h3]; exact ⟨fun _ => rfl, fun h => absurd ⟨Or.inl h1, h2, h3⟩ h⟩
      · rw [if_neg h3]; exact ⟨fun h => absurd h.2.2 h3, fun _ => rfl⟩
  · rw [if_neg h1, if_neg h1, if_neg h1]
    by_cases h4 : q_m_to x i.toNatClampNeg = u
    · rw [if_pos h4]
      by_cases h2 : f_Mod_isPassed x i = 0
      · rw [if_pos h2]; exact ⟨fun h => absurd h2 h.2.1, fun _ => rfl⟩
      · rw [if_neg h2]
        by_cases h3 : q_m_least x (q_m_from x i.toNatClampNeg).toNatClampNeg + f_Mod_costOf x i = q_m_least x u.toNatClampNeg
        · rw [if_pos h3]; exact ⟨fun _ => rfl, fun h => absurd ⟨Or.inr h4, h2, h3⟩ h⟩
        · rw [if_neg h3]; exact ⟨fun h => absurd h.2.2 h3, fun _ => rfl⟩
    · rw [if_neg h4]; exact ⟨fun h => absurd h.1 (fun h => by rcases h with h | h; exact h1 h; exact h4 h), fun _ => rfl⟩
def intoP (x : RT) (u r : Int32) (i : Int) : Prop := (r = -1 ∧ ∀ j : Int32, i ≤ j.toInt → j.toInt < (q_m_doors x).toInt → ¬ hitR x u j) ∨ (i ≤ r.toInt ∧ r.toInt < (q_m_doors x).toInt ∧ hitR x u r ∧ ∀ j : Int32, i ≤ j.toInt → j.toInt < r.toInt → ¬ hitR x u j)
theorem Linto_P {x : RT} (hI : RIn x) (u : Int32) : ∀ (k : Nat) (i : Int32), (0 ≤ i.toInt ∧ i.toInt ≤ (q_m_doors x).toInt ∧ (q_m_doors x).toInt - i.toInt < (k : Int)) → intoP x u (L_Mod_into x u k i) i.toInt := by
  intro k
  induction k with
  | zero => intro i hi; exact absurd hi.2.2 (by have := hi.2.1; omega)
  | succ k ih =>
    intro i hi
    by_cases h1 : q_m_doors x ≤ i
    · rw [L_Mod_into_s, if_pos h1]
      refine Or.inl ⟨rfl, fun j hj hj2 => ?_⟩
      rw [Int32.le_iff_toInt_le] at h1
      omega
    have hn := lp_inc hi h1 hI.2.1.2 (by decide)
    obtain ⟨q1, q2⟩ := Linto_s x u k i h1
    have h1' : i.toInt < (q_m_doors x).toInt := by
      rw [Int32.le_iff_toInt_le] at h1
      omega
    by_cases hh : hitR x u i
    · rw [q1 hh]
      exact Or.inr ⟨Int.le_refl _, h1', hh, fun j hj hj2 => by omega⟩
    · rw [q2 hh]
      have e1 : (i + 1).toInt = i.toInt + 1 := by
        have h3 := hI.2.1
        rw [Int32.toInt_add, show (1 : Int32).toInt = 1 from rfl]
        exact Int.bmod_eq_of_le (by have := hi.1; omega) (by omega)
      have hall : ∀ j : Int32, i.toInt ≤ j.toInt → (i + 1).toInt ≤ j.toInt ∨ j = i := fun j hj => by
        by_cases e : j.toInt = i.toInt
        · exact Or.inr (Int32.toInt_inj.mp e)
        · exact Or.inl (by omega)
      rcases ih (i + 1) hn with ⟨p1, p2⟩ | ⟨p1, p2, p3, p4⟩
      · refine Or.inl ⟨p1, fun j hj hj2 => ?_⟩
        rcases hall j hj with h | h
        · exact p2 j h hj2
        · rw [h]; exact hh
      · refine Or.inr ⟨by omega, p2, p3, fun j hj hj2 => ?_⟩
        rcases hall j hj with h | h
        · exact p4 j h hj2
        · rw [h]; exact hh
theorem into_P {x : RT} (hI : RIn x) (u : Int32) : intoP x u (f_Mod_into x u) 0 := Linto_P hI u 81 0 (lp_0 (N := 80) hI.2.1 (by decide))
/-- each reached room but the start has a door into it -/
def prR (x : RT) (r : Int32) : Prop := ∀ u : Int32, 0 ≤ u.toInt → u.toInt < (q_m_rooms x).toInt → (q_m_least x u.toNatClampNeg).toInt < 100000000 → ¬ u = r → ∃ i : Int32, dv x i ∧ hitR x u i
theorem cl_inj {a b : Int32} (ha : 0 ≤ a.toInt) (hb : 0 ≤ b.toInt) (h : a.toNatClampNeg = b.toNatClampNeg) : a = b := Int32.toInt_inj.mp (by
  have h1 := cl_nn ha
  have h2 := cl_nn hb
  omega)
theorem clN {n : Nat} (h : n < 1000000) : (Int32.ofNat n).toNatClampNeg = n := by
  have h1 := ofNat_toInt h
  have h2 := cl_nn (a := Int32.ofNat n) (by omega)
  omega
theorem pr_of {x y : RT} {r av : Int32} (hI : RIn x) (hM : RM x) (hr : 0 ≤ r.toInt) (hz : ls1 x y) (hw : wy_I (ER x av) (WR x) (fun v => v = r.toNatClampNeg) FARn (lfn FARn (q_m_least y))) (hp : wy_P (ER x av) (WR x) FARn (lfn FARn (q_m_least y)) (lfn FARn (q_m_least y))) : prR y r := by
  intro u hu0 hu1 hu2 hne
  have hIy := ls0_in hz.1 hI
  have hMy := ls0_M hz.1 hM
  have hrm := hIy.1
  have cu := cl_nn hu0
  have hu40 : u.toNatClampNeg < 40 := by omega
  have hub := hz.2 _ hu40
  rcases wy_val (ER_in hI hM) (by unfold FARn; decide) hw hp hu40 with ⟨h1, h2⟩ | ⟨h1, -⟩
  · rcases wy_pre h2 with ⟨h3, -⟩ | ⟨a, i, c', h3, h4, h5⟩
    · exact absurd (cl_inj hu0 hr h3) hne
    · have ha40 := (ER_in hI hM i a _ h4).1
      have hfa : lfn FARn (q_m_least y) a = c' := wy_fix (ER_in hI hM) (by unfold FARn; decide) hw hp ha40 h3
      have hab := hz.2 _ ha40
      have h6 := h4
      rw [← (ER_ls hz.1 av).1] at h6
      obtain ⟨e1, e2, e3, e4⟩ := h6
      have hdn := hIy.2.1
      have hi6 : i < 1000000 := by omega
      have ti := ofNat_toInt hi6
      have ci := clN hi6
      have hd : dv y (Int32.ofNat i) := ⟨by omega, by omega⟩
      have hrow := dv_row hIy hd
      rw [ci] at hrow
      have hcost := costOf_in hMy hd
      have hcn := cost_nat hMy hd
      rw [ci, (ER_ls hz.1 av).2] at hcn
      refine ⟨Int32.ofNat i, hd, ?_, passed_iff.mpr (by rw [ci]; exact e2), ?_⟩
      · rw [ci]
        rcases e3 with ⟨ea, eb⟩ | ⟨ea, eb⟩
        · exact Or.inr (cl_inj hrow.2.1.1 hu0 eb.symm)
        · exact Or.inl (cl_inj hrow.1.1 hu0 eb.symm)
      · have ho : (othR y u (Int32.ofNat i)).toNatClampNeg = a := by
          unfold othR
          rw [ci]
          rcases e3 with ⟨ea, eb⟩ | ⟨ea, eb⟩
          · by_cases hq : q_m_from y i = u
            · rw [if_pos hq, ← eb, ea, hq]
            · rw [if_neg hq, ea]
          · rw [if_pos (cl_inj hrow.1.1 hu0 eb.symm), ea]
        rw [ho]
        refine Int32.toInt_inj.mp ?_
        rw [Int32.toInt_add, Int.bmod_eq_of_le (by omega) (by omega)]
        unfold lfn at hfa h5
        rw [if_pos ha40] at hfa
        rw [if_pos hu40] at h5
        omega
  · unfold lfn FARn at h1
    rw [if_pos hu40] at h1
    omega
/-- the way goes back: what is between its rounds -/
def wz (y z : RT) : Prop := ∃ w n, z = s_m_steps (s_m_way y w) n
noncomputable def wcn (x : RT) (u : Int32) : Nat := wy_cnt (fun j => (q_m_least x j).toInt < (q_m_least x u.toNatClampNeg).toInt) 40
theorem wcn_top {x : RT} {u : Int32} (h : u.toNatClampNeg < 40) : wcn x u ≤ 39 := by
  have := wy_cnt_ltn (P := fun j => (q_m_least x j).toInt < (q_m_least x u.toNatClampNeg).toInt) 40 ⟨_, h, Int.lt_irrefl _⟩
  unfold wcn
  omega
theorem wcn_lt {x : RT} {u v : Int32} (hv : v.toNatClampNeg < 40) (h : (q_m_least x v.toNatClampNeg).toInt < (q_m_least x u.toNatClampNeg).toInt) : wcn x v < wcn x u := wy_cnt_lt 40 (fun j _ hj => by omega) ⟨_, hv, h, Int.lt_irrefl _⟩
def wvI (y : RT) (u : Int32) (z : RT) (k : Nat) : Prop := 0 ≤ u.toInt ∧ u.toInt < (q_m_rooms y).toInt ∧ (q_m_least y u.toNatClampNeg).toInt < 100000000 ∧ 0 ≤ (q_m_steps z).toInt ∧ (q_m_steps z).toInt + (wcn y u : Int) ≤ 39 ∧ wcn y u < k
theorem wz_in {y z : RT} {u : Int32} {k : Nat} (h : wz y z) (hI : RIn y) (hi : wvI y u z k) : RIn z := by
  obtain ⟨w, n, rfl⟩ := h
  obtain ⟨-, -, -, h4, h5, -⟩ := hi
  exact ⟨hI.1, hI.2.1, hI.2.2.1, hI.2.2.2.1, hI.2.2.2.2.1, ⟨h4, by omega⟩, hI.2.2.2.2.2.2⟩
theorem wz_into {y z : RT} (h : wz y z) (u : Int32) : f_Mod_into z u = f_Mod_into y u ∧ q_m_rooms z = q_m_rooms y ∧ q_m_end z = q_m_end y ∧ q_m_doors z = q_m_doors y ∧ q_m_least z = q_m_least y := by
  obtain ⟨w, n, rfl⟩ := h
  refine ⟨?_, rfl, rfl, rfl, rfl⟩
  have : ∀ k i, L_Mod_into (s_m_steps (s_m_way y w) n) u k i = L_Mod_into y u k i := by
    intro k
    induction k with
    | zero => intro i; rfl
    | succ k ih =>
      intro i
      rw [L_Mod_into_s, L_Mod_into_s, ih]
      rfl
  exact this 81 0
theorem wz_set {y z : RT} (h : wz y z) (w : Nat → Int32) (n : Int32) : wz y (s_m_steps (s_m_way z w) n) := by
  obtain ⟨w', n', rfl⟩ := h
  exact ⟨w, n, rfl⟩
theorem wz_rf (y : RT) : wz y y := ⟨q_m_way y, q_m_steps y, rfl⟩
theorem wv_st {y z : RT} {u : Int32} {k : Nat} (hi : wvI y u z k) : vp_in (q_m_steps z) 40 := vp_in_iff.mpr (by
  obtain ⟨-, -, -, h4, h5, -⟩ := hi
  omega)
theorem wv_u {y z : RT} {u : Int32} {k : Nat} (hI : RIn y) (hi : wvI y u z k) : vp_in u 40 := vp_in_iff.mpr (by
  obtain ⟨h1, h2, -⟩ := hi
  have := hI.1
  omega)
theorem wv_hit {y z : RT} {u r : Int32} {k : Nat} (hI : RIn y) (hp : prR y r) (hi : wvI y u z k) (hne : ¬ u = r) : dv y (f_Mod_into y u) ∧ hitR y u (f_Mod_into y u) := by
  obtain ⟨h1, h2, h3, -⟩ := hi
  obtain ⟨i, hd, hh⟩ := hp u h1 h2 h3 hne
  rcases into_P hI u with ⟨-, p2⟩ | ⟨p1, p2, p3, -⟩
  · exact absurd hh (p2 i hd.1 hd.2)
  · exact ⟨⟨p1, p2⟩, p3⟩
theorem wv_dv {y z : RT} {u r : Int32} {k : Nat} (hz : wz y z) (hI : RIn y) (hp : prR y r) (hi : wvI y u z k) (hne : ¬ u = r) : dv z (f_Mod_into z u) := by
  have h := (wv_hit hI hp hi hne).1
  rw [(wz_into hz u).1]
  show _ ∧ _
  rw [(wz_into hz u).2.2.2.1]
  exact h
/-- one step back -/
theorem wv_step {y z : RT} {u r : Int32} {k : Nat} (hz : wz y z) (hI : RIn y) (hM : RM y) (hb : ∀ j : Nat, j < 40 → 0 ≤ (q_m_least y j).toInt ∧ (q_m_least y j).toInt ≤ 100000000) (hp : prR y r) (hi : wvI y u z (k + 1)) (hne : ¬ u = r) (w : Nat → Int32) :
    wvI y (othR y u (f_Mod_into y u)) (s_m_steps (s_m_way z w) (q_m_steps z + 1)) k := by
  obtain ⟨hd, hh⟩ := wv_hit hI hp hi hne
  obtain ⟨h1, h2, h3, h4, h5, h6⟩ := hi
  have hrow := dv_row hI hd
  have hcost := costOf_in hM hd
  have ho : 0 ≤ (othR y u (f_Mod_into y u)).toInt ∧ (othR y u (f_Mod_into y u)).toInt < (q_m_rooms y).toInt := by
    unfold othR
    split
    · exact hrow.2.1
    · exact hrow.1
  have co := cl_nn ho.1
  have hrm := hI.1
  have ho40 : (othR y u (f_Mod_into y u)).toNatClampNeg < 40 := by omega
  have hob := hb _ ho40
  have heq := hh.2.2
  have e : (q_m_least y (othR y u (f_Mod_into y u)).toNatClampNeg + f_Mod_costOf y (f_Mod_into y u)).toInt = (q_m_least y (othR y u (f_Mod_into y u)).toNatClampNeg).toInt + (f_Mod_costOf y (f_Mod_into y u)).toInt := by
    rw [Int32.toInt_add]
    exact Int.bmod_eq_of_le (by omega) (by omega)
  rw [heq] at e
  have hlt := wcn_lt (x := y) (u := u) ho40 (by omega)
  have es : (q_m_steps z + 1).toInt = (q_m_steps z).toInt + 1 := by
    rw [Int32.toInt_add, show (1 : Int32).toInt = 1 from rfl]
    exact Int.bmod_eq_of_le (by omega) (by omega)
  refine ⟨ho.1, ho.2, by omega, ?_, ?_, by omega⟩
  · show 0 ≤ (q_m_steps z + 1).toInt
    omega
  · show (q_m_steps z + 1).toInt + (wcn y (othR y u (f_Mod_into y u)) : Int) ≤ 39
    omega
