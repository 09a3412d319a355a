/-- z is x but for the row of least costs -/
def ls0 (x z : RT) : Prop := ∃ f, z = s_m_least x f
def ls1 (x z : RT) : Prop := ls0 x z ∧ ∀ j : Nat, j < 40 → 0 ≤ (q_m_least z j).toInt ∧ (q_m_least z j).toInt ≤ 100000000
/-- the doors' metres -/
def RM (x : RT) : Prop := ∀ j : Nat, (j : Int) < (q_m_doors x).toInt → 1 ≤ (q_m_metres x j).toInt ∧ (q_m_metres x j).toInt ≤ 500
def fsum (f : Nat → Int32) : Nat → Nat
  | 0 => 0
  | n + 1 => fsum f n + (f n).toInt.toNat
def msum (z : RT) : Nat := fsum (q_m_least z) 40
def b01 (v : Int32) : Nat := if v = 0 then 0 else 1
theorem b01_le (v : Int32) : b01 v ≤ 1 := by
  unfold b01
  split <;> omega
noncomputable def rkF : Nat := Classical.choose (⟨4000000002, Nat.le_refl _⟩ : ∃ n : Nat, 4000000002 ≤ n)
theorem rkF_le : 4000000002 ≤ rkF := Classical.choose_spec (⟨4000000002, Nat.le_refl _⟩ : ∃ n : Nat, 4000000002 ≤ n)
theorem fsum_le {f g : Nat → Int32} : ∀ n, (∀ j, j < n → (f j).toInt.toNat ≤ (g j).toInt.toNat) → fsum f n ≤ fsum g n := by
  intro n
  induction n with
  | zero => intro _; exact Nat.le_refl _
  | succ n ih =>
    intro h
    have h1 := ih (fun j hj => h j (by omega))
    have h2 := h n (by omega)
    simp only [fsum]
    omega
theorem fsum_upd {f : Nat → Int32} {j : Nat} {v : Int32} (hv : v.toInt.toNat < (f j).toInt.toNat) : ∀ n, j < n → fsum (upd f j v) n < fsum f n := by
  intro n
  induction n with
  | zero => intro h; omega
  | succ n ih =>
    intro hj
    simp only [fsum]
    by_cases e : j = n
    · subst e
      have h1 : fsum (upd f j v) j ≤ fsum f j := fsum_le j (fun i hi => by
        have : upd f j v i = f i := if_neg (by omega)
        rw [this]; exact Nat.le_refl _)
      have h2 : upd f j v j = v := if_pos rfl
      rw [h2]
      omega
    · have h1 := ih (by omega)
      have h2 : upd f j v n = f n := if_neg (by omega)
      rw [h2]
      omega
theorem fsum_top {f : Nat → Int32} : ∀ n, (∀ j, j < n → (f j).toInt ≤ 100000000) → fsum f n ≤ n * 100000000 := by
  intro n
  induction n with
  | zero => intro _; exact Nat.le_refl _
  | succ n ih =>
    intro h
    have h1 := ih (fun j hj => h j (by omega))
    have h2 := h n (by omega)
    simp only [fsum]
    omega
theorem ls0_in {x z : RT} (h : ls0 x z) (hI : RIn x) : RIn z := by
  obtain ⟨f, rfl⟩ := h
  exact hI
theorem ls0_M {x z : RT} (h : ls0 x z) (hM : RM x) : RM z := by
  obtain ⟨f, rfl⟩ := h
  exact hM
theorem ls0_rf (x : RT) : ls0 x x := ⟨q_m_least x, rfl⟩
theorem ls0_set {x z : RT} (h : ls0 x z) (f : Nat → Int32) : ls0 x (s_m_least z f) := by
  obtain ⟨g, rfl⟩ := h
  exact ⟨f, rfl⟩
theorem ls0_doors {x z : RT} (h : ls0 x z) : q_m_doors z = q_m_doors x := by
  obtain ⟨f, rfl⟩ := h
  rfl
theorem rk_2d {x : RT} (hI : RIn x) : (2 * q_m_doors x).toInt = 2 * (q_m_doors x).toInt := by
  have h := hI.2.1
  rw [Int32.toInt_mul, show (2 : Int32).toInt = 2 from rfl]
  exact Int.bmod_eq_of_le (by omega) (by omega)
def rkI (x : RT) (d : Int32) (k : Nat) : Prop := 0 ≤ d.toInt ∧ d.toInt ≤ 2 * (q_m_doors x).toInt ∧ 2 * (q_m_doors x).toInt - d.toInt < (k : Int)
theorem rk_lt {x z : RT} {d : Int32} {k : Nat} (hz : ls0 x z) (hI : RIn x) (hi : rkI x d (k + 1)) (hc : ¬ 2 * q_m_doors z ≤ d) : d.toInt < 2 * (q_m_doors x).toInt := by
  rw [ls0_doors hz, Int32.le_iff_toInt_le, rk_2d hI] at hc
  omega
theorem rk_dv {x z : RT} {d : Int32} {k : Nat} (hz : ls0 x z) (hI : RIn x) (hi : rkI x d (k + 1)) (hc : ¬ 2 * q_m_doors z ≤ d) : dv z (d / 2) := by
  have h1 := rk_lt hz hI hi hc
  have h2 := hi.1
  show 0 ≤ (d / 2).toInt ∧ (d / 2).toInt < (q_m_doors z).toInt
  rw [ls0_doors hz, i2_half h2]
  omega
theorem rk_inc {x z : RT} {d : Int32} {k : Nat} (hz : ls0 x z) (hI : RIn x) (hi : rkI x d (k + 1)) (hc : ¬ 2 * q_m_doors z ≤ d) : rkI x (d + 1) k := by
  have h1 := rk_lt hz hI hi hc
  have h3 := hI.2.1
  obtain ⟨h4, h5, h6⟩ := hi
  have e : (d + 1).toInt = d.toInt + 1 := by
    rw [Int32.toInt_add, show (1 : Int32).toInt = 1 from rfl]
    exact Int.bmod_eq_of_le (by omega) (by omega)
  unfold rkI
  rw [e]
  omega
theorem rk_ite {c : Prop} [Decidable c] {a b : Int32} {N : Nat} (ha : vp_in a N) (hb : vp_in b N) : vp_in (if c then a else b) N := by
  by_cases h : c
  · rw [if_pos h]; exact ha
  · rw [if_neg h]; exact hb
theorem rk_T {p q r : Prop} [Decidable p] [Decidable q] [Decidable r] (h : ¬ (if p then (0 : Int32) else (if q then (if r then 0 else 1) else 0)) = 0) : ¬ p ∧ q ∧ ¬ r := by
  by_cases hp : p
  · exact absurd (if_pos hp) h
  · rw [if_neg hp] at h
    by_cases hq : q
    · rw [if_pos hq] at h
      by_cases hr : r
      · exact absurd (if_pos hr) h
      · exact ⟨hp, hq, hr⟩
    · exact absurd (if_neg hq) h
theorem costOf_eq {x : RT} {d : Int32} (hM : RM x) (hd : dv x d) : (f_Mod_costOf x d).toInt = 100 * (q_m_metres x d.toNatClampNeg).toInt + (if q_m_floor x (q_m_from x d.toNatClampNeg).toNatClampNeg = q_m_floor x (q_m_to x d.toNatClampNeg).toNatClampNeg then 0 else 1) := by
  have h1 := hM d.toNatClampNeg (by rw [cl_nn hd.1]; exact hd.2)
  have e : (100 * q_m_metres x d.toNatClampNeg).toInt = 100 * (q_m_metres x d.toNatClampNeg).toInt := by
    rw [Int32.toInt_mul, show (100 : Int32).toInt = 100 from rfl]
    exact Int.bmod_eq_of_le (by omega) (by omega)
  unfold f_Mod_costOf
  by_cases hc : q_m_floor x (q_m_from x d.toNatClampNeg).toNatClampNeg = q_m_floor x (q_m_to x d.toNatClampNeg).toNatClampNeg
  · rw [if_pos hc, if_pos hc, Int32.toInt_add, e, show (0 : Int32).toInt = 0 from rfl]
    exact Int.bmod_eq_of_le (by omega) (by omega)
  · rw [if_neg hc, if_neg hc, Int32.toInt_add, e, show (1 : Int32).toInt = 1 from rfl]
    exact Int.bmod_eq_of_le (by omega) (by omega)
theorem costOf_in {x : RT} {d : Int32} (hM : RM x) (hd : dv x d) : 100 ≤ (f_Mod_costOf x d).toInt ∧ (f_Mod_costOf x d).toInt ≤ 50001 := by
  have h1 := hM d.toNatClampNeg (by rw [cl_nn hd.1]; exact hd.2)
  rw [costOf_eq hM hd]
  split <;> omega
theorem vp_lt {a : Int32} {N : Nat} (h : vp_in a N) : a.toNatClampNeg < N := by
  have h1 := vp_in_iff.mp h
  have h2 := cl_nn h1.1
  omega
/-- one lowering: what it keeps -/
theorem ls1_low {x z : RT} {a b : Nat} {w : Int32} (hz : ls1 x z) (ha : a < 40) (hw : 0 ≤ w.toInt ∧ w.toInt ≤ 50001) (hlt : ¬ q_m_least z b ≤ q_m_least z a + w) (hb : b < 40) : ls1 x (s_m_least z (upd (q_m_least z) b (q_m_least z a + w))) ∧ msum (s_m_least z (upd (q_m_least z) b (q_m_least z a + w))) + 1 ≤ msum z ∧ (q_m_least z a + w).toInt = (q_m_least z a).toInt + w.toInt := by
  have h1 := hz.2 a ha
  have h2 := hz.2 b hb
  have e : (q_m_least z a + w).toInt = (q_m_least z a).toInt + w.toInt := by
    rw [Int32.toInt_add]
    exact Int.bmod_eq_of_le (by omega) (by omega)
  rw [Int32.le_iff_toInt_le, e] at hlt
  refine ⟨⟨ls0_set hz.1 _, fun j hj => ?_⟩, ?_, e⟩
  · show 0 ≤ (upd (q_m_least z) b (q_m_least z a + w) j).toInt ∧ (upd (q_m_least z) b (q_m_least z a + w) j).toInt ≤ 100000000
    unfold upd
    by_cases hjb : j = b
    · rw [if_pos hjb, e]; omega
    · rw [if_neg hjb]; exact hz.2 j hj
  · exact fsum_upd (by rw [e]; omega) 40 hb

theorem rk_0 {x : RT} (hI : RIn x) : rkI x 0 161 := by
  have h := hI.2.1
  have e : (0 : Int32).toInt = 0 := rfl
  unfold rkI
  rw [e]
  omega
def Lf_Mod_reckon (a1 a2 : Int32) : Nat → Int32 → RT → Int32 × RT
  | 0, _, z => (0, z)
  | k + 1, i, z => if 40 ≤ i then (0, z) else Lf_Mod_reckon a1 a2 k (i + 1) (s_m_least z (upd (q_m_least z) i.toNatClampNeg 100000000))
theorem Lf_Mod_reckon_s (a1 a2 : Int32) (k : Nat) (i : Int32) (z : RT) : Lf_Mod_reckon a1 a2 (k + 1) i z = if 40 ≤ i then (0, z) else Lf_Mod_reckon a1 a2 k (i + 1) (s_m_least z (upd (q_m_least z) i.toNatClampNeg 100000000)) := rfl
theorem rk_fill (x : RT) (a1 a2 : Int32) : ∀ (k : Nat) (i : Int32) (z : RT), (0 ≤ i.toInt ∧ i.toInt ≤ 40 ∧ 40 - i.toInt < (k : Int)) → ls0 x z → (∀ j : Nat, (j : Int) < i.toInt → q_m_least z j = 100000000) → ls0 x (Lf_Mod_reckon a1 a2 k i z).2 ∧ ∀ j : Nat, j < 40 → q_m_least (Lf_Mod_reckon a1 a2 k i z).2 j = 100000000 := by
  intro k
  induction k with
  | zero => intro i z hi; omega
  | succ k ih =>
    intro i z hi hz hf
    rw [Lf_Mod_reckon_s]
    by_cases hc : 40 ≤ i
    · rw [if_pos hc]
      refine ⟨hz, fun j hj => hf j ?_⟩
      rw [Int32.le_iff_toInt_le] at hc
      have : (40 : Int32).toInt = 40 := rfl
      omega
    · rw [if_neg hc]
      refine ih (i + 1) _ (lp_inc40 hi hc) (ls0_set hz _) (fun j hj => ?_)
      show upd (q_m_least z) i.toNatClampNeg 100000000 j = 100000000
      unfold upd
      by_cases e : j = i.toNatClampNeg
      · rw [if_pos e]
      · rw [if_neg e]
        refine hf j ?_
        have h1 := cl_nn hi.1
        have h2 : (i + 1).toInt = i.toInt + 1 := by
          rw [Int32.toInt_add, show (1 : Int32).toInt = 1 from rfl]
          exact Int.bmod_eq_of_le (by omega) (by omega)
        omega
theorem rk_f41 (x : RT) (a1 a2 : Int32) : ls0 x (Lf_Mod_reckon a1 a2 41 0 x).2 ∧ ∀ j : Nat, j < 40 → q_m_least (Lf_Mod_reckon a1 a2 41 0 x).2 j = 100000000 := rk_fill x a1 a2 41 0 x (by decide) (ls0_rf x) (fun j hj => by
  have : (0 : Int32).toInt = 0 := rfl
  omega)
theorem rk_st (x : RT) (a1 a2 : Int32) : ls1 x (s_m_least (Lf_Mod_reckon a1 a2 41 0 x).2 (upd (q_m_least (Lf_Mod_reckon a1 a2 41 0 x).2) a1.toNatClampNeg 0)) := by
  obtain ⟨h1, h2⟩ := rk_f41 x a1 a2
  refine ⟨ls0_set h1 _, fun j hj => ?_⟩
  show 0 ≤ (upd (q_m_least (Lf_Mod_reckon a1 a2 41 0 x).2) a1.toNatClampNeg 0 j).toInt ∧ (upd (q_m_least (Lf_Mod_reckon a1 a2 41 0 x).2) a1.toNatClampNeg 0 j).toInt ≤ 100000000
  unfold upd
  by_cases e : j = a1.toNatClampNeg
  · rw [if_pos e]; decide
  · rw [if_neg e, h2 j hj]; decide
theorem rk_init (x : RT) (a1 a2 : Int32) : msum (s_m_least (Lf_Mod_reckon a1 a2 41 0 x).2 (upd (q_m_least (Lf_Mod_reckon a1 a2 41 0 x).2) a1.toNatClampNeg 0)) + 1 + b01 1 ≤ rkF := by
  have h1 := fsum_top (f := q_m_least (s_m_least (Lf_Mod_reckon a1 a2 41 0 x).2 (upd (q_m_least (Lf_Mod_reckon a1 a2 41 0 x).2) a1.toNatClampNeg 0))) 40 (fun j hj => ((rk_st x a1 a2).2 j hj).2)
  have h2 : b01 1 = 1 := rfl
  have h3 := rkF_le
  unfold msum
  omega
def Li_Mod_reckon (a1 a2 : Int32) : Nat → Int32 → Int32 → RT → Int32 × RT
  | 0, _, _, z => (0, z)
  | k + 1, mo, d, z => if (2 * (q_m_doors z)) ≤ d then (mo, z) else (if (if (f_Mod_isPassed z (d / 2)) = 0 then 0 else (if (((q_m_hazard z) (if (d - d / 2 * 2) = 0 then (q_m_to z) (d / 2).toNatClampNeg else (q_m_from z) (d / 2).toNatClampNeg : Int32).toNatClampNeg) &&& a2) = 0 then (if ((q_m_least z) (if (d - d / 2 * 2) = 0 then (q_m_to z) (d / 2).toNatClampNeg else (q_m_from z) (d / 2).toNatClampNeg : Int32).toNatClampNeg) ≤ (((q_m_least z) (if (d - d / 2 * 2) = 0 then (q_m_from z) (d / 2).toNatClampNeg else (q_m_to z) (d / 2).toNatClampNeg : Int32).toNatClampNeg) + (f_Mod_costOf z (d / 2))) then 0 else 1) else 0) : Int32) = 0 then Li_Mod_reckon a1 a2 k (if mo = 0 then (if (if (f_Mod_isPassed z (d / 2)) = 0 then 0 else (if (((q_m_hazard z) (if (d - d / 2 * 2) = 0 then (q_m_to z) (d / 2).toNatClampNeg else (q_m_from z) (d / 2).toNatClampNeg : Int32).toNatClampNeg) &&& a2) = 0 then (if ((q_m_least z) (if (d - d / 2 * 2) = 0 then (q_m_to z) (d / 2).toNatClampNeg else (q_m_from z) (d / 2).toNatClampNeg : Int32).toNatClampNeg) ≤ (((q_m_least z) (if (d - d / 2 * 2) = 0 then (q_m_from z) (d / 2).toNatClampNeg else (q_m_to z) (d / 2).toNatClampNeg : Int32).toNatClampNeg) + (f_Mod_costOf z (d / 2))) then 0 else 1) else 0) : Int32) = 0 then 0 else 1) else 1 : Int32) (d + 1) z else Li_Mod_reckon a1 a2 k (if mo = 0 then (if (if (f_Mod_isPassed z (d / 2)) = 0 then 0 else (if (((q_m_hazard z) (if (d - d / 2 * 2) = 0 then (q_m_to z) (d / 2).toNatClampNeg else (q_m_from z) (d / 2).toNatClampNeg : Int32).toNatClampNeg) &&& a2) = 0 then (if ((q_m_least z) (if (d - d / 2 * 2) = 0 then (q_m_to z) (d / 2).toNatClampNeg else (q_m_from z) (d / 2).toNatClampNeg : Int32).toNatClampNeg) ≤ (((q_m_least z) (if (d - d / 2 * 2) = 0 then (q_m_from z) (d / 2).toNatClampNeg else (q_m_to z) (d / 2).toNatClampNeg : Int32).toNatClampNeg) + (f_Mod_costOf z (d / 2))) then 0 else 1) else 0) : Int32) = 0 then 0 else 1) else 1 : Int32) (d + 1) (s_m_least z (upd (q_m_least z) (if (d - d / 2 * 2) = 0 then (q_m_to z) (d / 2).toNatClampNeg else (q_m_from z) (d / 2).toNatClampNeg : Int32).toNatClampNeg (((q_m_least z) (if (d - d / 2 * 2) = 0 then (q_m_from z) (d / 2).toNatClampNeg else (q_m_to z) (d / 2).toNatClampNeg : Int32).toNatClampNeg) + (f_Mod_costOf z (d / 2))))))
theorem Li_Mod_reckon_s (a1 a2 : Int32) (k : Nat) (mo d : Int32) (z : RT) : Li_Mod_reckon a1 a2 (k + 1) mo d z = if (2 * (q_m_doors z)) ≤ d then (mo, z) else (if (if (f_Mod_isPassed z (d / 2)) = 0 then 0 else (if (((q_m_hazard z) (if (d - d / 2 * 2) = 0 then (q_m_to z) (d / 2).toNatClampNeg else (q_m_from z) (d / 2).toNatClampNeg : Int32).toNatClampNeg) &&& a2) = 0 then (if ((q_m_least z) (if (d - d / 2 * 2) = 0 then (q_m_to z) (d / 2).toNatClampNeg else (q_m_from z) (d / 2).toNatClampNeg : Int32).toNatClampNeg) ≤ (((q_m_least z) (if (d - d / 2 * 2) = 0 then (q_m_from z) (d / 2).toNatClampNeg else (q_m_to z) (d / 2).toNatClampNeg : Int32).toNatClampNeg) + (f_Mod_costOf z (d / 2))) then 0 else 1) else 0) : Int32) = 0 then Li_Mod_reckon a1 a2 k (if mo = 0 then (if (if (f_Mod_isPassed z (d / 2)) = 0 then 0 else (if (((q_m_hazard z) (if (d - d / 2 * 2) = 0 then (q_m_to z) (d / 2).toNatClampNeg else (q_m_from z) (d / 2).toNatClampNeg : Int32).toNatClampNeg) &&& a2) = 0 then (if ((q_m_least z) (if (d - d / 2 * 2) = 0 then (q_m_to z) (d / 2).toNatClampNeg else (q_m_from z) (d / 2).toNatClampNeg : Int32).toNatClampNeg) ≤ (((q_m_least z) (if (d - d / 2 * 2) = 0 then (q_m_from z) (d / 2).toNatClampNeg else (q_m_to z) (d / 2).toNatClampNeg : Int32).toNatClampNeg) + (f_Mod_costOf z (d / 2))) then 0 else 1) else 0) : Int32) = 0 then 0 else 1) else 1 : Int32) (d + 1) z else Li_Mod_reckon a1 a2 k (if mo = 0 then (if (if (f_Mod_isPassed z (d / 2)) = 0 then 0 else (if (((q_m_hazard z) (if (d - d / 2 * 2) = 0 then (q_m_to z) (d / 2).toNatClampNeg else (q_m_from z) (d / 2).toNatClampNeg : Int32).toNatClampNeg) &&& a2) = 0 then (if ((q_m_least z) (if (d - d / 2 * 2) = 0 then (q_m_to z) (d / 2).toNatClampNeg else (q_m_from z) (d / 2).toNatClampNeg : Int32).toNatClampNeg) ≤ (((q_m_least z) (if (d - d / 2 * 2) = 0 then (q_m_from z) (d / 2).toNatClampNeg else (q_m_to z) (d / 2).toNatClampNeg : Int32).toNatClampNeg) + (f_Mod_costOf z (d / 2))) then 0 else 1) else 0) : Int32) = 0 then 0 else 1) else 1 : Int32) (d + 1) (s_m_least z (upd (q_m_least z) (if (d - d / 2 * 2) = 0 then (q_m_to z) (d / 2).toNatClampNeg else (q_m_from z) (d / 2).toNatClampNeg : Int32).toNatClampNeg (((q_m_least z) (if (d - d / 2 * 2) = 0 then (q_m_from z) (d / 2).toNatClampNeg else (q_m_to z) (d / 2).toNatClampNeg : Int32).toNatClampNeg) + (f_Mod_costOf z (d / 2)))))) := rfl
theorem rk_Li (x : RT) (a1 a2 : Int32) (hI : RIn x) (hM : RM x) : ∀ (k : Nat) (mo d : Int32) (z : RT), rkI x d k → ls1 x z → ls1 x (Li_Mod_reckon a1 a2 k mo d z).2 ∧ msum (Li_Mod_reckon a1 a2 k mo d z).2 + b01 (Li_Mod_reckon a1 a2 k mo d z).1 ≤ msum z + b01 mo := by
  intro k
  induction k with
  | zero => intro mo d z hi; exact absurd hi.2.2 (by have := hi.2.1; omega)
  | succ k ih =>
    intro mo d z hi hz
    rw [Li_Mod_reckon_s]
    by_cases hc : 2 * q_m_doors z ≤ d
    · rw [if_pos hc]
      exact ⟨hz, Nat.le_refl _⟩
    rw [if_neg hc]
    have hd := rk_dv hz.1 hI hi hc
    have hIz := ls0_in hz.1 hI
    have hcost := costOf_in (ls0_M hz.1 hM) hd
    have hn := rk_inc hz.1 hI hi hc
    have hF := vp_lt (dv_from hIz hd)
    have hT := vp_lt (dv_to hIz hd)
    generalize hgo : (if f_Mod_isPassed z (d / 2) = 0 then (0 : Int32) else _) = go
    by_cases hg : go = 0
    · rw [if_pos hg]
      obtain ⟨h1, h2⟩ := ih (if mo = 0 then (if go = 0 then 0 else 1) else 1) (d + 1) z hn hz
      refine ⟨h1, Nat.le_trans h2 ?_⟩
      rw [hg]
      unfold b01
      by_cases hm : mo = 0
      · simp [hm]
      · simp [hm]
    · rw [if_neg hg]
      have hg2 := rk_T (by rw [hgo]; exact hg)
      have h3 := ls1_low (x := x) (z := z) (w := f_Mod_costOf z (d / 2)) hz (vp_lt (rk_ite (dv_from hIz hd) (dv_to hIz hd))) ⟨by omega, hcost.2⟩ hg2.2.2 (vp_lt (rk_ite (dv_to hIz hd) (dv_from hIz hd)))
      obtain ⟨h1, h2⟩ := ih _ (d + 1) _ hn h3.1
      refine ⟨h1, Nat.le_trans h2 ?_⟩
      have h4 := h3.2.1
      refine Nat.le_trans (Nat.add_le_add_left (b01_le _) _) (Nat.le_trans h4 (Nat.le_add_right _ _))
def L_Mod_reckon (a1 a2 : Int32) : Nat → Int32 → RT → Int32 × RT
  | 0, _, z => (0, z)
  | k + 1, mo, z => if mo = 0 then (0, z) else L_Mod_reckon a1 a2 k ((Li_Mod_reckon a1 a2 161 0 0 z).1) ((Li_Mod_reckon a1 a2 161 0 0 z).2)
theorem L_Mod_reckon_s (a1 a2 : Int32) (k : Nat) (mo : Int32) (z : RT) : L_Mod_reckon a1 a2 (k + 1) mo z = if mo = 0 then (0, z) else L_Mod_reckon a1 a2 k ((Li_Mod_reckon a1 a2 161 0 0 z).1) ((Li_Mod_reckon a1 a2 161 0 0 z).2) := rfl
noncomputable def g_Mod_reckon (x : RT) (a1 a2 : Int32) : Int32 × RT := L_Mod_reckon a1 a2 rkF 1 (s_m_least ((Lf_Mod_reckon a1 a2 41 0 x).2) (upd (q_m_least ((Lf_Mod_reckon a1 a2 41 0 x).2)) a1.toNatClampNeg 0))
set_option maxHeartbeats 400000 in
set_option maxRecDepth 100000 in
theorem u_Mod_reckon (l : Launch) (dC : Nat → ClassId) (dI : Nat → Nat → Nat) (cI cZ : ClassId) (ad : Nat → Nat) (hj : aInj 21 ad) (x : RT) (hI : RIn x) (sz : Nat) (a1 a2 : Int32) (hr1 : vp_in a1 40) (hM : RM x) : MX l y_Mod_reckon (Cond.code y_Mod_reckon b_Mod_reckon 8 none :: BW) { frames := 1, cells := 0, slots := 0, locals := 21 } (PCZ sz (dC, dI) [(cI, .int), (cZ, .boolean)] (wR cI cZ ad x) [.ref (ad 0), .int a1, .int a2]) (UQ none (WB (dC, dI) [(cI, .int), (cZ, .boolean)] (wR cI cZ ad (g_Mod_reckon x a1 a2).2)) (aC 21 ad sz)) 0 0 (aC 21 ad sz) := by
  refine MX.ofW (cc := b_Mod_reckon) (maxL := 8) (ret := none) (by decide) rfl ?_
  intro p e s m args below meth c s₁ B hml hex hv
  obtain ⟨hsz, rfl, hP, hK, hN⟩ := hv
  subst hsz
  have hx := B.exec
  have hb := B.bytes
  have hr := B.returns
  have hts := atoms_spec (ws := Cond.code y_Mod_reckon b_Mod_reckon 8 none :: BW) B.pre
  have hbw : ∀ w ∈ BW, w.before ([.ref (ad 0), .int a1, .int a2]).toArray s = true := fun w h => hts w (List.mem_cons_of_mem _ h)
  have hown : s.vm.findClass "PlanRowsModel" = some m.cls := findClass_of_methodNamed B.named
  have hlocks := B.notSynchronized
  have hDx : ∀ z, va_D (aC 21 ad s.heap.size) (wR cI cZ ad z) := fun z => w_D hj (wR_ad cI cZ ad z) _
  have hA : ∀ H : Heap, s.heap.size ≤ H.size → ∀ q, aC 21 ad H.size q → aC 21 ad s.heap.size q := fun H h => aC_le h
  generalize aC 21 ad s.heap.size = A at hDx hA ⊢
  have hD := hDx x
  have hS : va_S A s.heap s.heap [] := va_S.rf
  have hI0 := hI
  have hl := lv_entry ([.ref (ad 0), .int a1, .int a2]) (n := 8) (Nat.le_of_ble_eq_true rfl)
  rw [lg_entry_eq]
  generalize (lg_sl ([.ref (ad 0), .int a1, .int a2]) ++ List.replicate (8 - (lg_sl ([.ref (ad 0), .int a1, .int a2])).length) Slot.unset).toArray = ls at hl ⊢
  obtain ⟨H, hH⟩ : ∃ H, H = s.heap := ⟨_, rfl⟩
  obtain ⟨locs, hlocs⟩ : ∃ locs : List Loc, locs = [] := ⟨_, rfl⟩
  have hP : va_P (dC, dI) clsA (wR cI cZ ad x) H := by rw [hH]; exact hP
  have hS : va_S A s.heap H locs := by rw [hH, hlocs]; exact hS
  rw [← hlocs]
  have hW0 : ∀ (R : Room) (Q : State → Prop) (g : JFrame), W p l e R s m ([.ref (ad 0), .int a1, .int a2]).toArray below meth c H locs 0 0 Q g → W p l e R s m ([.ref (ad 0), .int a1, .int a2]).toArray below meth c s.heap locs 0 0 Q g := fun R Q g h => by rw [← hH]; exact h
  refine hW0 _ _ _ ?_
  have hl : lv_has ls 8 [(0, .ref (ad 0)), (1, .int a1), (2, .int a2)] := hl
  refine lv_iconst (v := 0) hx hb d_Mod_reckon_0 (by decide) ?_
  refine lv_istore_n (lv' := [(3, .int 0), (0, .ref (ad 0)), (1, .int a1), (2, .int a2)]) hx hb d_Mod_reckon_1 rfl hl (by decide) rfl (fun ls hl => ?_)
  have lp_1 : ∀ (k : Nat) (i : Int32) (z : RT) (ls : Array Slot) (H : Heap) (locs : List Loc), 0 ≤ i.toInt ∧ i.toInt ≤ 40 ∧ 40 - i.toInt < ((k : Nat) : Int) → ls0 x z → va_P (dC, dI) clsA (wR cI cZ ad z) H → va_S A s.heap H locs → lv_has ls 8 [(3, .int i), (0, .ref (ad 0)), (1, .int a1), (2, .int a2)] → (∀ (ls : Array Slot) (H : Heap) (locs : List Loc), va_P (dC, dI) clsA (wR cI cZ ad (Lf_Mod_reckon a1 a2 k i z).2) H → va_S A s.heap H locs → lv_has ls 8 [(0, .ref (ad 0)), (1, .int a1), (2, .int a2)] → W p l e { frames := 1, cells := 0, slots := 0, locals := 21 } s m ([.ref (ad 0), .int a1, .int a2]).toArray below meth c H locs 0 0 (MQX below (UQ none (WB (dC, dI) [(cI, .int), (cZ, .boolean)] (wR cI cZ ad (g_Mod_reckon x a1 a2).2)) A) ([.ref (ad 0), .int a1, .int a2]).toArray s 0 0 A) (F0 m 22 ls [])) → W p l e { frames := 1, cells := 0, slots := 0, locals := 21 } s m ([.ref (ad 0), .int a1, .int a2]).toArray below meth c H locs 0 0 (MQX below (UQ none (WB (dC, dI) [(cI, .int), (cZ, .boolean)] (wR cI cZ ad (g_Mod_reckon x a1 a2).2)) A) ([.ref (ad 0), .int a1, .int a2]).toArray s 0 0 A) (F0 m 2 ls []) := by
    intro k
    induction k with
    | zero =>
      intro i z ls H locs hi hz hP hS hl hKK
      obtain ⟨h1, h2, h3⟩ := hi
      omega
    | succ k ih =>
      intro i z ls H locs hi hz hP hS hl hKK
      have hI := ls0_in hz hI0
      have hD := hDx z
      refine lv_iload_n hx hb d_Mod_reckon_2 rfl (lv_at hl 0 rfl) ?_
      refine lv_bipush (v := 40) hx hb d_Mod_reckon_3 (by decide) ?_
      refine lv_icmp_ge (tgt := 22) hx hb d_Mod_reckon_5 (by decide) (fun c_2 => ?_) (fun c_2 => ?_)
      · have hq9 : Lf_Mod_reckon a1 a2 (k + 1) i z = (0, z) := by rw [Lf_Mod_reckon_s, if_pos c_2]
        rw [hq9] at hKK
        exact hKK ls H locs hP hS (lv_sub hl [1, 2, 3] rfl)
      · refine lv_aload_n hx hb d_Mod_reckon_8 rfl (lv_at hl 1 rfl) ?_
        refine va_get (D := (dC, dI)) (ci := 9) (v := .ref (ad 9)) (C := R_Mod) (T := F_Mod) (N := 31) hx hb hbw in_Mod hown hK hP 0 rfl rfl 11 (by decide) (hbw _ w_720) (fun _ h9 => h9) rfl d_Mod_reckon_9 ?_
        refine lv_iload_n hx hb d_Mod_reckon_12 rfl (lv_at hl 0 rfl) ?_
        refine lv_ldc (v := 100000000) hx hb hown (hbw _ w_842) d_Mod_reckon_13 ?_
        refine va_iast hx hb hK hP hD hS 9 0 rfl rfl (ix_40 hi c_2) d_Mod_reckon_15 (fun H locs hP hD hS => ?_)
        rw [wR_s_m_least] at hP hD
        refine lv_iinc (v := i + 1) (lv' := [(3, .int (i + 1)), (0, .ref (ad 0)), (1, .int a1), (2, .int a2)]) hx hb d_Mod_reckon_16 hl (k := 0) rfl rfl (by decide) rfl (fun ls hl => ?_)
        refine lv_goto (tgt := 2) hx hb d_Mod_reckon_19 (by decide) ?_
        have hq9 : Lf_Mod_reckon a1 a2 (k + 1) i z = Lf_Mod_reckon a1 a2 k (i + 1) (s_m_least z (upd (q_m_least z) i.toNatClampNeg 100000000)) := by rw [Lf_Mod_reckon_s, if_neg c_2]
        rw [hq9] at hKK
        exact ih (i + 1) (s_m_least z (upd (q_m_least z) i.toNatClampNeg 100000000)) ls H locs (lp_inc40 hi c_2) (ls0_set hz _) hP hS (lv_sub hl [0, 1, 2, 3] rfl) hKK
  refine lp_1 41 0 x ls H locs (by decide) (ls0_rf x) hP hS (lv_sub hl [0, 1, 2, 3] rfl) (fun ls H locs hP hS hl => ?_)
  obtain ⟨y_3, hy_3⟩ : ∃ zz, zz = (Lf_Mod_reckon a1 a2 41 0 x).2 := ⟨_, rfl⟩
  rw [← hy_3] at hP
  have hD : va_D A (wR cI cZ ad y_3) := hDx _
  refine lv_aload_n hx hb d_Mod_reckon_22 rfl (lv_at hl 0 rfl) ?_
  refine va_get (D := (dC, dI)) (ci := 9) (v := .ref (ad 9)) (C := R_Mod) (T := F_Mod) (N := 31) hx hb hbw in_Mod hown hK hP 0 rfl rfl 11 (by decide) (hbw _ w_720) (fun _ h9 => h9) rfl d_Mod_reckon_23 ?_
  refine lv_iload_n hx hb d_Mod_reckon_26 rfl (lv_at hl 1 rfl) ?_
  refine lv_iconst (v := 0) hx hb d_Mod_reckon_27 (by decide) ?_
  refine va_iast hx hb hK hP hD hS 9 0 rfl rfl hr1 d_Mod_reckon_28 (fun H locs hP hD hS => ?_)
  rw [wR_s_m_least] at hP hD
  refine lv_iconst (v := 1) hx hb d_Mod_reckon_29 (by decide) ?_
  refine lv_istore_n (lv' := [(3, .int 1), (0, .ref (ad 0)), (1, .int a1), (2, .int a2)]) hx hb d_Mod_reckon_30 rfl hl (by decide) rfl (fun ls hl => ?_)
  have loop : ∀ (k : Nat) (mo : Int32) (z : RT) (ls : Array Slot) (H : Heap) (locs : List Loc), msum z + 1 + b01 mo ≤ k → ls1 x z → g_Mod_reckon x a1 a2 = L_Mod_reckon a1 a2 k mo z → va_P (dC, dI) clsA (wR cI cZ ad z) H → va_S A s.heap H locs → lv_has ls 8 [(3, .int mo), (0, .ref (ad 0)), (1, .int a1), (2, .int a2)] → W p l e { frames := 1, cells := 0, slots := 0, locals := 21 } s m ([.ref (ad 0), .int a1, .int a2]).toArray below meth c H locs 0 0 (MQX below (UQ none (WB (dC, dI) [(cI, .int), (cZ, .boolean)] (wR cI cZ ad (g_Mod_reckon x a1 a2).2)) A) ([.ref (ad 0), .int a1, .int a2]).toArray s 0 0 A) (F0 m 31 ls []) := by
    intro k
    induction k with
    | zero =>
      intro mo z ls H locs hi hz hq hP hS hl
      exact absurd hi (by omega)
    | succ k ih =>
      intro mo z ls H locs hi hz hq hP hS hl
      have hq := hq.trans (L_Mod_reckon_s a1 a2 k mo z)
      have hI := ls0_in hz.1 hI0
      have hD := hDx z
      refine lv_iload_n hx hb d_Mod_reckon_31 rfl (lv_at hl 0 rfl) ?_
      refine lv_if_eq (tgt := 219) hx hb d_Mod_reckon_32 (by decide) (fun c_4 => ?_) (fun c_4 => ?_)
      · have hg : g_Mod_reckon x a1 a2 = (0, z) := by rw [hq, if_pos c_4]
        exact W.toX (W.vret hx hb hr (fun t ht hW => ⟨rfl, ⟨by rw [ht, hg, pr_snd]; exact hP, va_K.moved hW.alike hK, hN.warm hW⟩, hS.F ht⟩) hS.2.2 d_Mod_reckon_219)
      · refine lv_iconst (v := 0) hx hb d_Mod_reckon_35 (by decide) ?_
        refine lv_istore_n (lv' := [(3, .int 0), (0, .ref (ad 0)), (1, .int a1), (2, .int a2)]) hx hb d_Mod_reckon_36 rfl hl (by decide) rfl (fun ls hl => ?_)
        refine lv_iconst (v := 0) hx hb d_Mod_reckon_37 (by decide) ?_
        refine lv_istore (lv' := [(4, .int 0), (3, .int 0), (0, .ref (ad 0)), (1, .int a1), (2, .int a2)]) hx hb d_Mod_reckon_38 hl (by decide) rfl (fun ls hl => ?_)
        have lp_5 : ∀ (k : Nat) (mo d : Int32) (z : RT) (ls : Array Slot) (H : Heap) (locs : List Loc), rkI x d k → ls1 x z → va_P (dC, dI) clsA (wR cI cZ ad z) H → va_S A s.heap H locs → lv_has ls 8 [(4, .int d), (3, .int mo), (0, .ref (ad 0)), (1, .int a1), (2, .int a2)] → (∀ (ls : Array Slot) (H : Heap) (locs : List Loc), va_P (dC, dI) clsA (wR cI cZ ad (Li_Mod_reckon a1 a2 k mo d z).2) H → va_S A s.heap H locs → lv_has ls 8 [(3, .int ((Li_Mod_reckon a1 a2 k mo d z).1)), (0, .ref (ad 0)), (1, .int a1), (2, .int a2)] → W p l e { frames := 1, cells := 0, slots := 0, locals := 21 } s m ([.ref (ad 0), .int a1, .int a2]).toArray below meth c H locs 0 0 (MQX below (UQ none (WB (dC, dI) [(cI, .int), (cZ, .boolean)] (wR cI cZ ad (g_Mod_reckon x a1 a2).2)) A) ([.ref (ad 0), .int a1, .int a2]).toArray s 0 0 A) (F0 m 216 ls [])) → W p l e { frames := 1, cells := 0, slots := 0, locals := 21 } s m ([.ref (ad 0), .int a1, .int a2]).toArray below meth c H locs 0 0 (MQX below (UQ none (WB (dC, dI) [(cI, .int), (cZ, .boolean)] (wR cI cZ ad (g_Mod_reckon x a1 a2).2)) A) ([.ref (ad 0), .int a1, .int a2]).toArray s 0 0 A) (F0 m 40 ls []) := by
          intro k
          induction k with
          | zero =>
            intro mo d z ls H locs hi hz hP hS hl hKK
            exact absurd hi.2.2 (by have := hi.2.1; omega)
          | succ k ih =>
            intro mo d z ls H locs hi hz hP hS hl hKK
            have hI := ls0_in hz.1 hI0
            have hD := hDx z
            refine lv_iload hx hb d_Mod_reckon_40 (lv_at hl 0 rfl) ?_
            refine lv_iconst (v := 2) hx hb d_Mod_reckon_42 (by decide) ?_
            refine lv_aload_n hx hb d_Mod_reckon_43 rfl (lv_at hl 2 rfl) ?_
            refine va_get (D := (dC, dI)) (ci := 9) (v := .int (q_m_doors z)) (C := R_Mod) (T := F_Mod) (N := 31) hx hb hbw in_Mod hown hK hP 0 rfl rfl 5 (by decide) (hbw _ w_714) (fun _ h9 => h9) rfl d_Mod_reckon_44 ?_
            refine lv_imul hx hb d_Mod_reckon_47 ?_
            refine lv_icmp_ge (tgt := 216) hx hb d_Mod_reckon_48 (by decide) (fun c_6 => ?_) (fun c_6 => ?_)
            · have hq9 : Li_Mod_reckon a1 a2 (k + 1) mo d z = (mo, z) := by rw [Li_Mod_reckon_s, if_pos c_6]
              rw [hq9] at hKK
              exact hKK ls H locs hP hS (lv_sub hl [1, 2, 3, 4] rfl)
            · refine lv_iload hx hb d_Mod_reckon_51 (lv_at hl 0 rfl) ?_
              refine lv_iconst (v := 2) hx hb d_Mod_reckon_53 (by decide) ?_
              refine lv_irem hx hb d_Mod_reckon_54 (by decide) ?_
              have jn_7 : W p l e { frames := 1, cells := 0, slots := 0, locals := 21 } s m ([.ref (ad 0), .int a1, .int a2]).toArray below meth c H locs 0 0 (MQX below (UQ none (WB (dC, dI) [(cI, .int), (cZ, .boolean)] (wR cI cZ ad (g_Mod_reckon x a1 a2).2)) A) ([.ref (ad 0), .int a1, .int a2]).toArray s 0 0 A) (F0 m 79 ls [.int (if (d - d / 2 * 2) = 0 then (q_m_from z) (d / 2).toNatClampNeg else (q_m_to z) (d / 2).toNatClampNeg : Int32)]) := by
                refine lv_istore (lv' := [(5, .int (if (d - d / 2 * 2) = 0 then (q_m_from z) (d / 2).toNatClampNeg else (q_m_to z) (d / 2).toNatClampNeg : Int32)), (4, .int d), (3, .int mo), (0, .ref (ad 0)), (1, .int a1), (2, .int a2)]) hx hb d_Mod_reckon_79 hl (by decide) rfl (fun ls hl => ?_)
                refine lv_iload hx hb d_Mod_reckon_81 (lv_at hl 1 rfl) ?_
                refine lv_iconst (v := 2) hx hb d_Mod_reckon_83 (by decide) ?_
                refine lv_irem hx hb d_Mod_reckon_84 (by decide) ?_
                have jn_9 : W p l e { frames := 1, cells := 0, slots := 0, locals := 21 } s m ([.ref (ad 0), .int a1, .int a2]).toArray below meth c H locs 0 0 (MQX below (UQ none (WB (dC, dI) [(cI, .int), (cZ, .boolean)] (wR cI cZ ad (g_Mod_reckon x a1 a2).2)) A) ([.ref (ad 0), .int a1, .int a2]).toArray s 0 0 A) (F0 m 109 ls [.int (if (d - d / 2 * 2) = 0 then (q_m_to z) (d / 2).toNatClampNeg else (q_m_from z) (d / 2).toNatClampNeg : Int32)]) := by
                  refine lv_istore (lv' := [(6, .int (if (d - d / 2 * 2) = 0 then (q_m_to z) (d / 2).toNatClampNeg else (q_m_from z) (d / 2).toNatClampNeg : Int32)), (5, .int (if (d - d / 2 * 2) = 0 then (q_m_from z) (d / 2).toNatClampNeg else (q_m_to z) (d / 2).toNatClampNeg : Int32)), (4, .int d), (3, .int mo), (0, .ref (ad 0)), (1, .int a1), (2, .int a2)]) hx hb d_Mod_reckon_109 hl (by decide) rfl (fun ls hl => ?_)
                  refine lv_aload_n hx hb d_Mod_reckon_111 rfl (lv_at hl 4 rfl) ?_
                  refine lv_iload hx hb d_Mod_reckon_112 (lv_at hl 2 rfl) ?_
                  refine lv_iconst (v := 2) hx hb d_Mod_reckon_114 (by decide) ?_
                  refine lv_idiv hx hb d_Mod_reckon_115 (by decide) ?_
                  refine xv (As := [.int (d / 2)]) (rest := []) (C := "PlanRowsModel") ⟨hx, hb, hml, hown, hts⟩ (c_Mod_isPassed l dC dI cI cZ ad z hI (d / 2) (rk_dv hz.1 hI0 hi c_6)) (cw_Mod_100 hts rfl rfl ⟨Nat.le_of_ble_eq_true rfl, Nat.le_of_ble_eq_true rfl⟩) hK hN hP 0 rfl rfl rfl rfl hl.1 rfl (Nat.le_of_ble_eq_true rfl) d_Mod_reckon_116 ⟨Nat.zero_le _, Nat.zero_le _⟩ ?_
                  have jn_11 : W p l e { frames := 1, cells := 0, slots := 0, locals := 21 } s m ([.ref (ad 0), .int a1, .int a2]).toArray below meth c H locs 0 0 (MQX below (UQ none (WB (dC, dI) [(cI, .int), (cZ, .boolean)] (wR cI cZ ad (g_Mod_reckon x a1 a2).2)) A) ([.ref (ad 0), .int a1, .int a2]).toArray s 0 0 A) (F0 m 165 ls [.int (if (f_Mod_isPassed z (d / 2)) = 0 then 0 else (if (((q_m_hazard z) (if (d - d / 2 * 2) = 0 then (q_m_to z) (d / 2).toNatClampNeg else (q_m_from z) (d / 2).toNatClampNeg : Int32).toNatClampNeg) &&& a2) = 0 then (if ((q_m_least z) (if (d - d / 2 * 2) = 0 then (q_m_to z) (d / 2).toNatClampNeg else (q_m_from z) (d / 2).toNatClampNeg : Int32).toNatClampNeg) ≤ (((q_m_least z) (if (d - d / 2 * 2) = 0 then (q_m_from z) (d / 2).toNatClampNeg else (q_m_to z) (d / 2).toNatClampNeg : Int32).toNatClampNeg) + (f_Mod_costOf z (d / 2))) then 0 else 1) else 0) : Int32)]) := by
                    refine lv_istore (lv' := [(7, .int (if (f_Mod_isPassed z (d / 2)) = 0 then 0 else (if (((q_m_hazard z) (if (d - d / 2 * 2) = 0 then (q_m_to z) (d / 2).toNatClampNeg else (q_m_from z) (d / 2).toNatClampNeg : Int32).toNatClampNeg) &&& a2) = 0 then (if ((q_m_least z) (if (d - d / 2 * 2) = 0 then (q_m_to z) (d / 2).toNatClampNeg else (q_m_from z) (d / 2).toNatClampNeg : Int32).toNatClampNeg) ≤ (((q_m_least z) (if (d - d / 2 * 2) = 0 then (q_m_from z) (d / 2).toNatClampNeg else (q_m_to z) (d / 2).toNatClampNeg : Int32).toNatClampNeg) + (f_Mod_costOf z (d / 2))) then 0 else 1) else 0) : Int32)), (6, .int (if (d - d / 2 * 2) = 0 then (q_m_to z) (d / 2).toNatClampNeg else (q_m_from z) (d / 2).toNatClampNeg : Int32)), (5, .int (if (d - d / 2 * 2) = 0 then (q_m_from z) (d / 2).toNatClampNeg else (q_m_to z) (d / 2).toNatClampNeg : Int32)), (4, .int d), (3, .int mo), (0, .ref (ad 0)), (1, .int a1), (2, .int a2)]) hx hb d_Mod_reckon_165 hl (by decide) rfl (fun ls hl => ?_)
                    refine lv_iload hx hb d_Mod_reckon_167 (lv_at hl 0 rfl) ?_
                    refine lv_if_eq (tgt := 195) hx hb d_Mod_reckon_169 (by decide) (fun c_15 => ?_) (fun c_15 => ?_)
                    · refine lv_iload_n hx hb d_Mod_reckon_195 rfl (lv_at hl 4 rfl) ?_
                      have jn_16 : W p l e { frames := 1, cells := 0, slots := 0, locals := 21 } s m ([.ref (ad 0), .int a1, .int a2]).toArray below meth c H locs 0 0 (MQX below (UQ none (WB (dC, dI) [(cI, .int), (cZ, .boolean)] (wR cI cZ ad (g_Mod_reckon x a1 a2).2)) A) ([.ref (ad 0), .int a1, .int a2]).toArray s 0 0 A) (F0 m 209 ls [.int (if mo = 0 then (if (if (f_Mod_isPassed z (d / 2)) = 0 then 0 else (if (((q_m_hazard z) (if (d - d / 2 * 2) = 0 then (q_m_to z) (d / 2).toNatClampNeg else (q_m_from z) (d / 2).toNatClampNeg : Int32).toNatClampNeg) &&& a2) = 0 then (if ((q_m_least z) (if (d - d / 2 * 2) = 0 then (q_m_to z) (d / 2).toNatClampNeg else (q_m_from z) (d / 2).toNatClampNeg : Int32).toNatClampNeg) ≤ (((q_m_least z) (if (d - d / 2 * 2) = 0 then (q_m_from z) (d / 2).toNatClampNeg else (q_m_to z) (d / 2).toNatClampNeg : Int32).toNatClampNeg) + (f_Mod_costOf z (d / 2))) then 0 else 1) else 0) : Int32) = 0 then 0 else 1) else 1 : Int32)]) := by
                        refine lv_istore_n (lv' := [(3, .int (if mo = 0 then (if (if (f_Mod_isPassed z (d / 2)) = 0 then 0 else (if (((q_m_hazard z) (if (d - d / 2 * 2) = 0 then (q_m_to z) (d / 2).toNatClampNeg else (q_m_from z) (d / 2).toNatClampNeg : Int32).toNatClampNeg) &&& a2) = 0 then (if ((q_m_least z) (if (d - d / 2 * 2) = 0 then (q_m_to z) (d / 2).toNatClampNeg else (q_m_from z) (d / 2).toNatClampNeg : Int32).toNatClampNeg) ≤ (((q_m_least z) (if (d - d / 2 * 2) = 0 then (q_m_from z) (d / 2).toNatClampNeg else (q_m_to z) (d / 2).toNatClampNeg : Int32).toNatClampNeg) + (f_Mod_costOf z (d / 2))) then 0 else 1) else 0) : Int32) = 0 then 0 else 1) else 1 : Int32)), (7, .int (if (f_Mod_isPassed z (d / 2)) = 0 then 0 else (if (((q_m_hazard z) (if (d - d / 2 * 2) = 0 then (q_m_to z) (d / 2).toNatClampNeg else (q_m_from z) (d / 2).toNatClampNeg : Int32).toNatClampNeg) &&& a2) = 0 then (if ((q_m_least z) (if (d - d / 2 * 2) = 0 then (q_m_to z) (d / 2).toNatClampNeg else (q_m_from z) (d / 2).toNatClampNeg : Int32).toNatClampNeg) ≤ (((q_m_least z) (if (d - d / 2 * 2) = 0 then (q_m_from z) (d / 2).toNatClampNeg else (q_m_to z) (d / 2).toNatClampNeg : Int32).toNatClampNeg) + (f_Mod_costOf z (d / 2))) then 0 else 1) else 0) : Int32)), (6, .int (if (d - d / 2 * 2) = 0 then (q_m_to z) (d / 2).toNatClampNeg else (q_m_from z) (d / 2).toNatClampNeg : Int32)), (5, .int (if (d - d / 2 * 2) = 0 then (q_m_from z) (d / 2).toNatClampNeg else (q_m_to z) (d / 2).toNatClampNeg : Int32)), (4, .int d), (0, .ref (ad 0)), (1, .int a1), (2, .int a2)]) hx hb d_Mod_reckon_209 rfl hl (by decide) rfl (fun ls hl => ?_)
                        refine lv_iinc (v := d + 1) (lv' := [(4, .int (d + 1)), (3, .int (if mo = 0 then (if (if (f_Mod_isPassed z (d / 2)) = 0 then 0 else (if (((q_m_hazard z) (if (d - d / 2 * 2) = 0 then (q_m_to z) (d / 2).toNatClampNeg else (q_m_from z) (d / 2).toNatClampNeg : Int32).toNatClampNeg) &&& a2) = 0 then (if ((q_m_least z) (if (d - d / 2 * 2) = 0 then (q_m_to z) (d / 2).toNatClampNeg else (q_m_from z) (d / 2).toNatClampNeg : Int32).toNatClampNeg) ≤ (((q_m_least z) (if (d - d / 2 * 2) = 0 then (q_m_from z) (d / 2).toNatClampNeg else (q_m_to z) (d / 2).toNatClampNeg : Int32).toNatClampNeg) + (f_Mod_costOf z (d / 2))) then 0 else 1) else 0) : Int32) = 0 then 0 else 1) else 1 : Int32)), (7, .int (if (f_Mod_isPassed z (d / 2)) = 0 then 0 else (if (((q_m_hazard z) (if (d - d / 2 * 2) = 0 then (q_m_to z) (d / 2).toNatClampNeg else (q_m_from z) (d / 2).toNatClampNeg : Int32).toNatClampNeg) &&& a2) = 0 then (if ((q_m_least z) (if (d - d / 2 * 2) = 0 then (q_m_to z) (d / 2).toNatClampNeg else (q_m_from z) (d / 2).toNatClampNeg : Int32).toNatClampNeg) ≤ (((q_m_least z) (if (d - d / 2 * 2) = 0 then (q_m_from z) (d / 2).toNatClampNeg else (q_m_to z) (d / 2).toNatClampNeg : Int32).toNatClampNeg) + (f_Mod_costOf z (d / 2))) then 0 else 1) else 0) : Int32)), (6, .int (if (d - d / 2 * 2) = 0 then (q_m_to z) (d / 2).toNatClampNeg else (q_m_from z) (d / 2).toNatClampNeg : Int32)), (5, .int (if (d - d / 2 * 2) = 0 then (q_m_from z) (d / 2).toNatClampNeg else (q_m_to z) (d / 2).toNatClampNeg : Int32)), (0, .ref (ad 0)), (1, .int a1), (2, .int a2)]) hx hb d_Mod_reckon_210 hl (k := 4) rfl rfl (by decide) rfl (fun ls hl => ?_)
                        refine lv_goto (tgt := 40) hx hb d_Mod_reckon_213 (by decide) ?_
                        have hq9 : Li_Mod_reckon a1 a2 (k + 1) mo d z = Li_Mod_reckon a1 a2 k (if mo = 0 then (if (if (f_Mod_isPassed z (d / 2)) = 0 then 0 else (if (((q_m_hazard z) (if (d - d / 2 * 2) = 0 then (q_m_to z) (d / 2).toNatClampNeg else (q_m_from z) (d / 2).toNatClampNeg : Int32).toNatClampNeg) &&& a2) = 0 then (if ((q_m_least z) (if (d - d / 2 * 2) = 0 then (q_m_to z) (d / 2).toNatClampNeg else (q_m_from z) (d / 2).toNatClampNeg : Int32).toNatClampNeg) ≤ (((q_m_least z) (if (d - d / 2 * 2) = 0 then (q_m_from z) (d / 2).toNatClampNeg else (q_m_to z) (d / 2).toNatClampNeg : Int32).toNatClampNeg) + (f_Mod_costOf z (d / 2))) then 0 else 1) else 0) : Int32) = 0 then 0 else 1) else 1 : Int32) (d + 1) z := by rw [Li_Mod_reckon_s, if_neg c_6, if_pos c_15]
                        rw [hq9] at hKK
                        exact ih (if mo = 0 then (if (if (f_Mod_isPassed z (d / 2)) = 0 then 0 else (if (((q_m_hazard z) (if (d - d / 2 * 2) = 0 then (q_m_to z) (d / 2).toNatClampNeg else (q_m_from z) (d / 2).toNatClampNeg : Int32).toNatClampNeg) &&& a2) = 0 then (if ((q_m_least z) (if (d - d / 2 * 2) = 0 then (q_m_to z) (d / 2).toNatClampNeg else (q_m_from z) (d / 2).toNatClampNeg : Int32).toNatClampNeg) ≤ (((q_m_least z) (if (d - d / 2 * 2) = 0 then (q_m_from z) (d / 2).toNatClampNeg else (q_m_to z) (d / 2).toNatClampNeg : Int32).toNatClampNeg) + (f_Mod_costOf z (d / 2))) then 0 else 1) else 0) : Int32) = 0 then 0 else 1) else 1 : Int32) (d + 1) z ls H locs (rk_inc hz.1 hI0 hi c_6) hz hP hS (lv_sub hl [0, 1, 5, 6, 7] rfl) hKK
                      refine lv_if_ne (tgt := 204) hx hb d_Mod_reckon_196 (by decide) (fun c_17 => ?_) (fun c_17 => ?_)
                      · refine lv_iconst (v := 1) hx hb d_Mod_reckon_204 (by decide) ?_
                        refine lv_goto (tgt := 209) hx hb d_Mod_reckon_205 (by decide) ?_
                        rw [show (if mo = 0 then (if (if (f_Mod_isPassed z (d / 2)) = 0 then 0 else (if (((q_m_hazard z) (if (d - d / 2 * 2) = 0 then (q_m_to z) (d / 2).toNatClampNeg else (q_m_from z) (d / 2).toNatClampNeg : Int32).toNatClampNeg) &&& a2) = 0 then (if ((q_m_least z) (if (d - d / 2 * 2) = 0 then (q_m_to z) (d / 2).toNatClampNeg else (q_m_from z) (d / 2).toNatClampNeg : Int32).toNatClampNeg) ≤ (((q_m_least z) (if (d - d / 2 * 2) = 0 then (q_m_from z) (d / 2).toNatClampNeg else (q_m_to z) (d / 2).toNatClampNeg : Int32).toNatClampNeg) + (f_Mod_costOf z (d / 2))) then 0 else 1) else 0) : Int32) = 0 then 0 else 1) else 1 : Int32) = 1 from by rw [if_neg c_17]] at jn_16
                        exact jn_16
                      · refine lv_iload hx hb d_Mod_reckon_199 (lv_at hl 0 rfl) ?_
                        refine lv_if_eq (tgt := 208) hx hb d_Mod_reckon_201 (by decide) (fun c_18 => ?_) (fun c_18 => ?_)
                        · refine lv_iconst (v := 0) hx hb d_Mod_reckon_208 (by decide) ?_
                          rw [show (if mo = 0 then (if (if (f_Mod_isPassed z (d / 2)) = 0 then 0 else (if (((q_m_hazard z) (if (d - d / 2 * 2) = 0 then (q_m_to z) (d / 2).toNatClampNeg else (q_m_from z) (d / 2).toNatClampNeg : Int32).toNatClampNeg) &&& a2) = 0 then (if ((q_m_least z) (if (d - d / 2 * 2) = 0 then (q_m_to z) (d / 2).toNatClampNeg else (q_m_from z) (d / 2).toNatClampNeg : Int32).toNatClampNeg) ≤ (((q_m_least z) (if (d - d / 2 * 2) = 0 then (q_m_from z) (d / 2).toNatClampNeg else (q_m_to z) (d / 2).toNatClampNeg : Int32).toNatClampNeg) + (f_Mod_costOf z (d / 2))) then 0 else 1) else 0) : Int32) = 0 then 0 else 1) else 1 : Int32) = 0 from by rw [if_pos c_17, if_pos c_18]] at jn_16
                          exact jn_16
                        · refine lv_iconst (v := 1) hx hb d_Mod_reckon_204 (by decide) ?_
                          refine lv_goto (tgt := 209) hx hb d_Mod_reckon_205 (by decide) ?_
                          rw [show (if mo = 0 then (if (if (f_Mod_isPassed z (d / 2)) = 0 then 0 else (if (((q_m_hazard z) (if (d - d / 2 * 2) = 0 then (q_m_to z) (d / 2).toNatClampNeg else (q_m_from z) (d / 2).toNatClampNeg : Int32).toNatClampNeg) &&& a2) = 0 then (if ((q_m_least z) (if (d - d / 2 * 2) = 0 then (q_m_to z) (d / 2).toNatClampNeg else (q_m_from z) (d / 2).toNatClampNeg : Int32).toNatClampNeg) ≤ (((q_m_least z) (if (d - d / 2 * 2) = 0 then (q_m_from z) (d / 2).toNatClampNeg else (q_m_to z) (d / 2).toNatClampNeg : Int32).toNatClampNeg) + (f_Mod_costOf z (d / 2))) then 0 else 1) else 0) : Int32) = 0 then 0 else 1) else 1 : Int32) = 1 from by rw [if_pos c_17, if_neg c_18]] at jn_16
                          exact jn_16
                    · refine lv_aload_n hx hb d_Mod_reckon_172 rfl (lv_at hl 5 rfl) ?_
                      refine va_get (D := (dC, dI)) (ci := 9) (v := .ref (ad 9)) (C := R_Mod) (T := F_Mod) (N := 31) hx hb hbw in_Mod hown hK hP 0 rfl rfl 11 (by decide) (hbw _ w_720) (fun _ h9 => h9) rfl d_Mod_reckon_173 ?_
                      refine lv_iload hx hb d_Mod_reckon_176 (lv_at hl 1 rfl) ?_
                      refine lv_aload_n hx hb d_Mod_reckon_178 rfl (lv_at hl 5 rfl) ?_
                      refine va_get (D := (dC, dI)) (ci := 9) (v := .ref (ad 9)) (C := R_Mod) (T := F_Mod) (N := 31) hx hb hbw in_Mod hown hK hP 0 rfl rfl 11 (by decide) (hbw _ w_720) (fun _ h9 => h9) rfl d_Mod_reckon_179 ?_
                      refine lv_iload hx hb d_Mod_reckon_182 (lv_at hl 2 rfl) ?_
                      refine va_iald hx hb hK hP 9 0 rfl rfl (rk_ite (dv_from hI (rk_dv hz.1 hI0 hi c_6)) (dv_to hI (rk_dv hz.1 hI0 hi c_6))) d_Mod_reckon_184 ?_
                      refine lv_aload_n hx hb d_Mod_reckon_185 rfl (lv_at hl 5 rfl) ?_
                      refine lv_iload hx hb d_Mod_reckon_186 (lv_at hl 3 rfl) ?_
                      refine lv_iconst (v := 2) hx hb d_Mod_reckon_188 (by decide) ?_
                      refine lv_idiv hx hb d_Mod_reckon_189 (by decide) ?_
                      refine xv (As := [.int (d / 2)]) (rest := [.int ((q_m_least z) (if (d - d / 2 * 2) = 0 then (q_m_from z) (d / 2).toNatClampNeg else (q_m_to z) (d / 2).toNatClampNeg : Int32).toNatClampNeg), .int (if (d - d / 2 * 2) = 0 then (q_m_to z) (d / 2).toNatClampNeg else (q_m_from z) (d / 2).toNatClampNeg : Int32), .ref (ad 9)]) (C := "PlanRowsModel") ⟨hx, hb, hml, hown, hts⟩ (c_Mod_costOf l dC dI cI cZ ad z hI (d / 2) (rk_dv hz.1 hI0 hi c_6)) (cw_Mod_103 hts rfl rfl ⟨Nat.le_of_ble_eq_true rfl, Nat.le_of_ble_eq_true rfl⟩) hK hN hP 0 rfl rfl rfl rfl hl.1 rfl (Nat.le_of_ble_eq_true rfl) d_Mod_reckon_190 ⟨Nat.zero_le _, Nat.zero_le _⟩ ?_
                      refine lv_iadd hx hb d_Mod_reckon_193 ?_
                      refine va_iast hx hb hK hP hD hS 9 0 rfl rfl (rk_ite (dv_to hI (rk_dv hz.1 hI0 hi c_6)) (dv_from hI (rk_dv hz.1 hI0 hi c_6))) d_Mod_reckon_194 (fun H locs hP hD hS => ?_)
                      rw [wR_s_m_least] at hP hD
                      refine lv_iload_n hx hb d_Mod_reckon_195 rfl (lv_at hl 4 rfl) ?_
                      have jn_19 : W p l e { frames := 1, cells := 0, slots := 0, locals := 21 } s m ([.ref (ad 0), .int a1, .int a2]).toArray below meth c H locs 0 0 (MQX below (UQ none (WB (dC, dI) [(cI, .int), (cZ, .boolean)] (wR cI cZ ad (g_Mod_reckon x a1 a2).2)) A) ([.ref (ad 0), .int a1, .int a2]).toArray s 0 0 A) (F0 m 209 ls [.int (if mo = 0 then (if (if (f_Mod_isPassed z (d / 2)) = 0 then 0 else (if (((q_m_hazard z) (if (d - d / 2 * 2) = 0 then (q_m_to z) (d / 2).toNatClampNeg else (q_m_from z) (d / 2).toNatClampNeg : Int32).toNatClampNeg) &&& a2) = 0 then (if ((q_m_least z) (if (d - d / 2 * 2) = 0 then (q_m_to z) (d / 2).toNatClampNeg else (q_m_from z) (d / 2).toNatClampNeg : Int32).toNatClampNeg) ≤ (((q_m_least z) (if (d - d / 2 * 2) = 0 then (q_m_from z) (d / 2).toNatClampNeg else (q_m_to z) (d / 2).toNatClampNeg : Int32).toNatClampNeg) + (f_Mod_costOf z (d / 2))) then 0 else 1) else 0) : Int32) = 0 then 0 else 1) else 1 : Int32)]) := by
                        refine lv_istore_n (lv' := [(3, .int (if mo = 0 then (if (if (f_Mod_isPassed z (d / 2)) = 0 then 0 else (if (((q_m_hazard z) (if (d - d / 2 * 2) = 0 then (q_m_to z) (d / 2).toNatClampNeg else (q_m_from z) (d / 2).toNatClampNeg : Int32).toNatClampNeg) &&& a2) = 0 then (if ((q_m_least z) (if (d - d / 2 * 2) = 0 then (q_m_to z) (d / 2).toNatClampNeg else (q_m_from z) (d / 2).toNatClampNeg : Int32).toNatClampNeg) ≤ (((q_m_least z) (if (d - d / 2 * 2) = 0 then (q_m_from z) (d / 2).toNatClampNeg else (q_m_to z) (d / 2).toNatClampNeg : Int32).toNatClampNeg) + (f_Mod_costOf z (d / 2))) then 0 else 1) else 0) : Int32) = 0 then 0 else 1) else 1 : Int32)), (7, .int (if (f_Mod_isPassed z (d / 2)) = 0 then 0 else (if (((q_m_hazard z) (if (d - d / 2 * 2) = 0 then (q_m_to z) (d / 2).toNatClampNeg else (q_m_from z) (d / 2).toNatClampNeg : Int32).toNatClampNeg) &&& a2) = 0 then (if ((q_m_least z) (if (d - d / 2 * 2) = 0 then (q_m_to z) (d / 2).toNatClampNeg else (q_m_from z) (d / 2).toNatClampNeg : Int32).toNatClampNeg) ≤ (((q_m_least z) (if (d - d / 2 * 2) = 0 then (q_m_from z) (d / 2).toNatClampNeg else (q_m_to z) (d / 2).toNatClampNeg : Int32).toNatClampNeg) + (f_Mod_costOf z (d / 2))) then 0 else 1) else 0) : Int32)), (6, .int (if (d - d / 2 * 2) = 0 then (q_m_to z) (d / 2).toNatClampNeg else (q_m_from z) (d / 2).toNatClampNeg : Int32)), (5, .int (if (d - d / 2 * 2) = 0 then (q_m_from z) (d / 2).toNatClampNeg else (q_m_to z) (d / 2).toNatClampNeg : Int32)), (4, .int d), (0, .ref (ad 0)), (1, .int a1), (2, .int a2)]) hx hb d_Mod_reckon_209 rfl hl (by decide) rfl (fun ls hl => ?_)
                        refine lv_iinc (v := d + 1) (lv' := [(4, .int (d + 1)), (3, .int (if mo = 0 then (if (if (f_Mod_isPassed z (d / 2)) = 0 then 0 else (if (((q_m_hazard z) (if (d - d / 2 * 2) = 0 then (q_m_to z) (d / 2).toNatClampNeg else (q_m_from z) (d / 2).toNatClampNeg : Int32).toNatClampNeg) &&& a2) = 0 then (if ((q_m_least z) (if (d - d / 2 * 2) = 0 then (q_m_to z) (d / 2).toNatClampNeg else (q_m_from z) (d / 2).toNatClampNeg : Int32).toNatClampNeg) ≤ (((q_m_least z) (if (d - d / 2 * 2) = 0 then (q_m_from z) (d / 2).toNatClampNeg else (q_m_to z) (d / 2).toNatClampNeg : Int32).toNatClampNeg) + (f_Mod_costOf z (d / 2))) then 0 else 1) else 0) : Int32) = 0 then 0 else 1) else 1 : Int32)), (7, .int (if (f_Mod_isPassed z (d / 2)) = 0 then 0 else (if (((q_m_hazard z) (if (d - d / 2 * 2) = 0 then (q_m_to z) (d / 2).toNatClampNeg else (q_m_from z) (d / 2).toNatClampNeg : Int32).toNatClampNeg) &&& a2) = 0 then (if ((q_m_least z) (if (d - d / 2 * 2) = 0 then (q_m_to z) (d / 2).toNatClampNeg else (q_m_from z) (d / 2).toNatClampNeg : Int32).toNatClampNeg) ≤ (((q_m_least z) (if (d - d / 2 * 2) = 0 then (q_m_from z) (d / 2).toNatClampNeg else (q_m_to z) (d / 2).toNatClampNeg : Int32).toNatClampNeg) + (f_Mod_costOf z (d / 2))) then 0 else 1) else 0) : Int32)), (6, .int (if (d - d / 2 * 2) = 0 then (q_m_to z) (d / 2).toNatClampNeg else (q_m_from z) (d / 2).toNatClampNeg : Int32)), (5, .int (if (d - d / 2 * 2) = 0 then (q_m_from z) (d / 2).toNatClampNeg else (q_m_to z) (d / 2).toNatClampNeg : Int32)), (0, .ref (ad 0)), (1, .int a1), (2, .int a2)]) hx hb d_Mod_reckon_210 hl (k := 4) rfl rfl (by decide) rfl (fun ls hl => ?_)
                        refine lv_goto (tgt := 40) hx hb d_Mod_reckon_213 (by decide) ?_
                        have hq9 : Li_Mod_reckon a1 a2 (k + 1) mo d z = Li_Mod_reckon a1 a2 k (if mo = 0 then (if (if (f_Mod_isPassed z (d / 2)) = 0 then 0 else (if (((q_m_hazard z) (if (d - d / 2 * 2) = 0 then (q_m_to z) (d / 2).toNatClampNeg else (q_m_from z) (d / 2).toNatClampNeg : Int32).toNatClampNeg) &&& a2) = 0 then (if ((q_m_least z) (if (d - d / 2 * 2) = 0 then (q_m_to z) (d / 2).toNatClampNeg else (q_m_from z) (d / 2).toNatClampNeg : Int32).toNatClampNeg) ≤ (((q_m_least z) (if (d - d / 2 * 2) = 0 then (q_m_from z) (d / 2).toNatClampNeg else (q_m_to z) (d / 2).toNatClampNeg : Int32).toNatClampNeg) + (f_Mod_costOf z (d / 2))) then 0 else 1) else 0) : Int32) = 0 then 0 else 1) else 1 : Int32) (d + 1) (s_m_least z (upd (q_m_least z) (if (d - d / 2 * 2) = 0 then (q_m_to z) (d / 2).toNatClampNeg else (q_m_from z) (d / 2).toNatClampNeg : Int32).toNatClampNeg (((q_m_least z) (if (d - d / 2 * 2) = 0 then (q_m_from z) (d / 2).toNatClampNeg else (q_m_to z) (d / 2).toNatClampNeg : Int32).toNatClampNeg) + (f_Mod_costOf z (d / 2))))) := by rw [Li_Mod_reckon_s, if_neg c_6, if_neg c_15]
                        rw [hq9] at hKK
                        exact ih (if mo = 0 then (if (if (f_Mod_isPassed z (d / 2)) = 0 then 0 else (if (((q_m_hazard z) (if (d - d / 2 * 2) = 0 then (q_m_to z) (d / 2).toNatClampNeg else (q_m_from z) (d / 2).toNatClampNeg : Int32).toNatClampNeg) &&& a2) = 0 then (if ((q_m_least z) (if (d - d / 2 * 2) = 0 then (q_m_to z) (d / 2).toNatClampNeg else (q_m_from z) (d / 2).toNatClampNeg : Int32).toNatClampNeg) ≤ (((q_m_least z) (if (d - d / 2 * 2) = 0 then (q_m_from z) (d / 2).toNatClampNeg else (q_m_to z) (d / 2).toNatClampNeg : Int32).toNatClampNeg) + (f_Mod_costOf z (d / 2))) then 0 else 1) else 0) : Int32) = 0 then 0 else 1) else 1 : Int32) (d + 1) (s_m_least z (upd (q_m_least z) (if (d - d / 2 * 2) = 0 then (q_m_to z) (d / 2).toNatClampNeg else (q_m_from z) (d / 2).toNatClampNeg : Int32).toNatClampNeg (((q_m_least z) (if (d - d / 2 * 2) = 0 then (q_m_from z) (d / 2).toNatClampNeg else (q_m_to z) (d / 2).toNatClampNeg : Int32).toNatClampNeg) + (f_Mod_costOf z (d / 2))))) ls H locs (rk_inc hz.1 hI0 hi c_6) (ls1_low hz (vp_lt (rk_ite (dv_from hI (rk_dv hz.1 hI0 hi c_6)) (dv_to hI (rk_dv hz.1 hI0 hi c_6)))) ⟨by have := (costOf_in (ls0_M hz.1 hM) (rk_dv hz.1 hI0 hi c_6)).1; omega, (costOf_in (ls0_M hz.1 hM) (rk_dv hz.1 hI0 hi c_6)).2⟩ (rk_T c_15).2.2 (vp_lt (rk_ite (dv_to hI (rk_dv hz.1 hI0 hi c_6)) (dv_from hI (rk_dv hz.1 hI0 hi c_6))))).1 hP hS (lv_sub hl [0, 1, 5, 6, 7] rfl) hKK
                      refine lv_if_ne (tgt := 204) hx hb d_Mod_reckon_196 (by decide) (fun c_20 => ?_) (fun c_20 => ?_)
                      · refine lv_iconst (v := 1) hx hb d_Mod_reckon_204 (by decide) ?_
                        refine lv_goto (tgt := 209) hx hb d_Mod_reckon_205 (by decide) ?_
                        rw [show (if mo = 0 then (if (if (f_Mod_isPassed z (d / 2)) = 0 then 0 else (if (((q_m_hazard z) (if (d - d / 2 * 2) = 0 then (q_m_to z) (d / 2).toNatClampNeg else (q_m_from z) (d / 2).toNatClampNeg : Int32).toNatClampNeg) &&& a2) = 0 then (if ((q_m_least z) (if (d - d / 2 * 2) = 0 then (q_m_to z) (d / 2).toNatClampNeg else (q_m_from z) (d / 2).toNatClampNeg : Int32).toNatClampNeg) ≤ (((q_m_least z) (if (d - d / 2 * 2) = 0 then (q_m_from z) (d / 2).toNatClampNeg else (q_m_to z) (d / 2).toNatClampNeg : Int32).toNatClampNeg) + (f_Mod_costOf z (d / 2))) then 0 else 1) else 0) : Int32) = 0 then 0 else 1) else 1 : Int32) = 1 from by rw [if_neg c_20]] at jn_19
                        exact jn_19
                      · refine lv_iload hx hb d_Mod_reckon_199 (lv_at hl 0 rfl) ?_
                        refine lv_if_eq (tgt := 208) hx hb d_Mod_reckon_201 (by decide) (fun c_21 => ?_) (fun c_21 => ?_)
                        · refine lv_iconst (v := 0) hx hb d_Mod_reckon_208 (by decide) ?_
                          rw [show (if mo = 0 then (if (if (f_Mod_isPassed z (d / 2)) = 0 then 0 else (if (((q_m_hazard z) (if (d - d / 2 * 2) = 0 then (q_m_to z) (d / 2).toNatClampNeg else (q_m_from z) (d / 2).toNatClampNeg : Int32).toNatClampNeg) &&& a2) = 0 then (if ((q_m_least z) (if (d - d / 2 * 2) = 0 then (q_m_to z) (d / 2).toNatClampNeg else (q_m_from z) (d / 2).toNatClampNeg : Int32).toNatClampNeg) ≤ (((q_m_least z) (if (d - d / 2 * 2) = 0 then (q_m_from z) (d / 2).toNatClampNeg else (q_m_to z) (d / 2).toNatClampNeg : Int32).toNatClampNeg) + (f_Mod_costOf z (d / 2))) then 0 else 1) else 0) : Int32) = 0 then 0 else 1) else 1 : Int32) = 0 from by rw [if_pos c_20, if_pos c_21]] at jn_19
                          exact jn_19
                        · refine lv_iconst (v := 1) hx hb d_Mod_reckon_204 (by decide) ?_
                          refine lv_goto (tgt := 209) hx hb d_Mod_reckon_205 (by decide) ?_
                          rw [show (if mo = 0 then (if (if (f_Mod_isPassed z (d / 2)) = 0 then 0 else (if (((q_m_hazard z) (if (d - d / 2 * 2) = 0 then (q_m_to z) (d / 2).toNatClampNeg else (q_m_from z) (d / 2).toNatClampNeg : Int32).toNatClampNeg) &&& a2) = 0 then (if ((q_m_least z) (if (d - d / 2 * 2) = 0 then (q_m_to z) (d / 2).toNatClampNeg else (q_m_from z) (d / 2).toNatClampNeg : Int32).toNatClampNeg) ≤ (((q_m_least z) (if (d - d / 2 * 2) = 0 then (q_m_from z) (d / 2).toNatClampNeg else (q_m_to z) (d / 2).toNatClampNeg : Int32).toNatClampNeg) + (f_Mod_costOf z (d / 2))) then 0 else 1) else 0) : Int32) = 0 then 0 else 1) else 1 : Int32) = 1 from by rw [if_pos c_20, if_neg c_21]] at jn_19
                          exact jn_19
                  refine lv_if_eq (tgt := 164) hx hb d_Mod_reckon_119 (by decide) (fun c_12 => ?_) (fun c_12 => ?_)
                  · refine lv_iconst (v := 0) hx hb d_Mod_reckon_164 (by decide) ?_
                    rw [show (if (f_Mod_isPassed z (d / 2)) = 0 then 0 else (if (((q_m_hazard z) (if (d - d / 2 * 2) = 0 then (q_m_to z) (d / 2).toNatClampNeg else (q_m_from z) (d / 2).toNatClampNeg : Int32).toNatClampNeg) &&& a2) = 0 then (if ((q_m_least z) (if (d - d / 2 * 2) = 0 then (q_m_to z) (d / 2).toNatClampNeg else (q_m_from z) (d / 2).toNatClampNeg : Int32).toNatClampNeg) ≤ (((q_m_least z) (if (d - d / 2 * 2) = 0 then (q_m_from z) (d / 2).toNatClampNeg else (q_m_to z) (d / 2).toNatClampNeg : Int32).toNatClampNeg) + (f_Mod_costOf z (d / 2))) then 0 else 1) else 0) : Int32) = 0 from by rw [if_pos c_12]] at jn_11
                    exact jn_11
                  · refine lv_aload_n hx hb d_Mod_reckon_122 rfl (lv_at hl 4 rfl) ?_
                    refine va_get (D := (dC, dI)) (ci := 9) (v := .ref (ad 3)) (C := R_Mod) (T := F_Mod) (N := 31) hx hb hbw in_Mod hown hK hP 0 rfl rfl 4 (by decide) (hbw _ w_713) (fun _ h9 => h9) rfl d_Mod_reckon_123 ?_
                    refine lv_iload hx hb d_Mod_reckon_126 (lv_at hl 0 rfl) ?_
                    refine va_iald hx hb hK hP 3 0 rfl rfl (rk_ite (dv_to hI (rk_dv hz.1 hI0 hi c_6)) (dv_from hI (rk_dv hz.1 hI0 hi c_6))) d_Mod_reckon_128 ?_
                    refine lv_iload_n hx hb d_Mod_reckon_129 rfl (lv_at hl 6 rfl) ?_
                    refine lv_iand hx hb d_Mod_reckon_130 ?_
                    refine lv_if_ne (tgt := 164) hx hb d_Mod_reckon_131 (by decide) (fun c_13 => ?_) (fun c_13 => ?_)
                    · refine lv_iconst (v := 0) hx hb d_Mod_reckon_164 (by decide) ?_
                      rw [show (if (f_Mod_isPassed z (d / 2)) = 0 then 0 else (if (((q_m_hazard z) (if (d - d / 2 * 2) = 0 then (q_m_to z) (d / 2).toNatClampNeg else (q_m_from z) (d / 2).toNatClampNeg : Int32).toNatClampNeg) &&& a2) = 0 then (if ((q_m_least z) (if (d - d / 2 * 2) = 0 then (q_m_to z) (d / 2).toNatClampNeg else (q_m_from z) (d / 2).toNatClampNeg : Int32).toNatClampNeg) ≤ (((q_m_least z) (if (d - d / 2 * 2) = 0 then (q_m_from z) (d / 2).toNatClampNeg else (q_m_to z) (d / 2).toNatClampNeg : Int32).toNatClampNeg) + (f_Mod_costOf z (d / 2))) then 0 else 1) else 0) : Int32) = 0 from by rw [if_neg c_12, if_neg c_13]] at jn_11
                      exact jn_11
                    · refine lv_aload_n hx hb d_Mod_reckon_134 rfl (lv_at hl 4 rfl) ?_
                      refine va_get (D := (dC, dI)) (ci := 9) (v := .ref (ad 9)) (C := R_Mod) (T := F_Mod) (N := 31) hx hb hbw in_Mod hown hK hP 0 rfl rfl 11 (by decide) (hbw _ w_720) (fun _ h9 => h9) rfl d_Mod_reckon_135 ?_
                      refine lv_iload hx hb d_Mod_reckon_138 (lv_at hl 1 rfl) ?_
                      refine va_iald hx hb hK hP 9 0 rfl rfl (rk_ite (dv_from hI (rk_dv hz.1 hI0 hi c_6)) (dv_to hI (rk_dv hz.1 hI0 hi c_6))) d_Mod_reckon_140 ?_
                      refine lv_aload_n hx hb d_Mod_reckon_141 rfl (lv_at hl 4 rfl) ?_
                      refine lv_iload hx hb d_Mod_reckon_142 (lv_at hl 2 rfl) ?_
                      refine lv_iconst (v := 2) hx hb d_Mod_reckon_144 (by decide) ?_
                      refine lv_idiv hx hb d_Mod_reckon_145 (by decide) ?_
                      refine xv (As := [.int (d / 2)]) (rest := [.int ((q_m_least z) (if (d - d / 2 * 2) = 0 then (q_m_from z) (d / 2).toNatClampNeg else (q_m_to z) (d / 2).toNatClampNeg : Int32).toNatClampNeg)]) (C := "PlanRowsModel") ⟨hx, hb, hml, hown, hts⟩ (c_Mod_costOf l dC dI cI cZ ad z hI (d / 2) (rk_dv hz.1 hI0 hi c_6)) (cw_Mod_103 hts rfl rfl ⟨Nat.le_of_ble_eq_true rfl, Nat.le_of_ble_eq_true rfl⟩) hK hN hP 0 rfl rfl rfl rfl hl.1 rfl (Nat.le_of_ble_eq_true rfl) d_Mod_reckon_146 ⟨Nat.zero_le _, Nat.zero_le _⟩ ?_
                      refine lv_iadd hx hb d_Mod_reckon_149 ?_
                      refine lv_aload_n hx hb d_Mod_reckon_150 rfl (lv_at hl 4 rfl) ?_
                      refine va_get (D := (dC, dI)) (ci := 9) (v := .ref (ad 9)) (C := R_Mod) (T := F_Mod) (N := 31) hx hb hbw in_Mod hown hK hP 0 rfl rfl 11 (by decide) (hbw _ w_720) (fun _ h9 => h9) rfl d_Mod_reckon_151 ?_
                      refine lv_iload hx hb d_Mod_reckon_154 (lv_at hl 0 rfl) ?_
                      refine va_iald hx hb hK hP 9 0 rfl rfl (rk_ite (dv_to hI (rk_dv hz.1 hI0 hi c_6)) (dv_from hI (rk_dv hz.1 hI0 hi c_6))) d_Mod_reckon_156 ?_
                      refine lv_icmp_ge (tgt := 164) hx hb d_Mod_reckon_157 (by decide) (fun c_14 => ?_) (fun c_14 => ?_)
                      · refine lv_iconst (v := 0) hx hb d_Mod_reckon_164 (by decide) ?_
                        rw [show (if (f_Mod_isPassed z (d / 2)) = 0 then 0 else (if (((q_m_hazard z) (if (d - d / 2 * 2) = 0 then (q_m_to z) (d / 2).toNatClampNeg else (q_m_from z) (d / 2).toNatClampNeg : Int32).toNatClampNeg) &&& a2) = 0 then (if ((q_m_least z) (if (d - d / 2 * 2) = 0 then (q_m_to z) (d / 2).toNatClampNeg else (q_m_from z) (d / 2).toNatClampNeg : Int32).toNatClampNeg) ≤ (((q_m_least z) (if (d - d / 2 * 2) = 0 then (q_m_from z) (d / 2).toNatClampNeg else (q_m_to z) (d / 2).toNatClampNeg : Int32).toNatClampNeg) + (f_Mod_costOf z (d / 2))) then 0 else 1) else 0) : Int32) = 0 from by rw [if_neg c_12, if_pos c_13, if_pos c_14]] at jn_11
                        exact jn_11
                      · refine lv_iconst (v := 1) hx hb d_Mod_reckon_160 (by decide) ?_
                        refine lv_goto (tgt := 165) hx hb d_Mod_reckon_161 (by decide) ?_
                        rw [show (if (f_Mod_isPassed z (d / 2)) = 0 then 0 else (if (((q_m_hazard z) (if (d - d / 2 * 2) = 0 then (q_m_to z) (d / 2).toNatClampNeg else (q_m_from z) (d / 2).toNatClampNeg : Int32).toNatClampNeg) &&& a2) = 0 then (if ((q_m_least z) (if (d - d / 2 * 2) = 0 then (q_m_to z) (d / 2).toNatClampNeg else (q_m_from z) (d / 2).toNatClampNeg : Int32).toNatClampNeg) ≤ (((q_m_least z) (if (d - d / 2 * 2) = 0 then (q_m_from z) (d / 2).toNatClampNeg else (q_m_to z) (d / 2).toNatClampNeg : Int32).toNatClampNeg) + (f_Mod_costOf z (d / 2))) then 0 else 1) else 0) : Int32) = 1 from by rw [if_neg c_12, if_pos c_13, if_neg c_14]] at jn_11
                        exact jn_11
                refine lv_if_ne (tgt := 100) hx hb d_Mod_reckon_85 (by decide) (fun c_10 => ?_) (fun c_10 => ?_)
                · refine lv_aload_n hx hb d_Mod_reckon_100 rfl (lv_at hl 3 rfl) ?_
                  refine va_get (D := (dC, dI)) (ci := 9) (v := .ref (ad 4)) (C := R_Mod) (T := F_Mod) (N := 31) hx hb hbw in_Mod hown hK hP 0 rfl rfl 6 (by decide) (hbw _ w_715) (fun _ h9 => h9) rfl d_Mod_reckon_101 ?_
                  refine lv_iload hx hb d_Mod_reckon_104 (lv_at hl 1 rfl) ?_
                  refine lv_iconst (v := 2) hx hb d_Mod_reckon_106 (by decide) ?_
                  refine lv_idiv hx hb d_Mod_reckon_107 (by decide) ?_
                  refine va_iald hx hb hK hP 4 0 rfl rfl (dv_in hI (rk_dv hz.1 hI0 hi c_6)) d_Mod_reckon_108 ?_
                  rw [show (if (d - d / 2 * 2) = 0 then (q_m_to z) (d / 2).toNatClampNeg else (q_m_from z) (d / 2).toNatClampNeg : Int32) = (q_m_from z) (d / 2).toNatClampNeg from by rw [if_neg c_10]] at jn_9
                  exact jn_9
                · refine lv_aload_n hx hb d_Mod_reckon_88 rfl (lv_at hl 3 rfl) ?_
                  refine va_get (D := (dC, dI)) (ci := 9) (v := .ref (ad 5)) (C := R_Mod) (T := F_Mod) (N := 31) hx hb hbw in_Mod hown hK hP 0 rfl rfl 7 (by decide) (hbw _ w_716) (fun _ h9 => h9) rfl d_Mod_reckon_89 ?_
                  refine lv_iload hx hb d_Mod_reckon_92 (lv_at hl 1 rfl) ?_
                  refine lv_iconst (v := 2) hx hb d_Mod_reckon_94 (by decide) ?_
                  refine lv_idiv hx hb d_Mod_reckon_95 (by decide) ?_
                  refine va_iald hx hb hK hP 5 0 rfl rfl (dv_in hI (rk_dv hz.1 hI0 hi c_6)) d_Mod_reckon_96 ?_
                  refine lv_goto (tgt := 109) hx hb d_Mod_reckon_97 (by decide) ?_
                  rw [show (if (d - d / 2 * 2) = 0 then (q_m_to z) (d / 2).toNatClampNeg else (q_m_from z) (d / 2).toNatClampNeg : Int32) = (q_m_to z) (d / 2).toNatClampNeg from by rw [if_pos c_10]] at jn_9
                  exact jn_9
              refine lv_if_ne (tgt := 70) hx hb d_Mod_reckon_55 (by decide) (fun c_8 => ?_) (fun c_8 => ?_)
              · refine lv_aload_n hx hb d_Mod_reckon_70 rfl (lv_at hl 2 rfl) ?_
                refine va_get (D := (dC, dI)) (ci := 9) (v := .ref (ad 5)) (C := R_Mod) (T := F_Mod) (N := 31) hx hb hbw in_Mod hown hK hP 0 rfl rfl 7 (by decide) (hbw _ w_716) (fun _ h9 => h9) rfl d_Mod_reckon_71 ?_
                refine lv_iload hx hb d_Mod_reckon_74 (lv_at hl 0 rfl) ?_
                refine lv_iconst (v := 2) hx hb d_Mod_reckon_76 (by decide) ?_
                refine lv_idiv hx hb d_Mod_reckon_77 (by decide) ?_
                refine va_iald hx hb hK hP 5 0 rfl rfl (dv_in hI (rk_dv hz.1 hI0 hi c_6)) d_Mod_reckon_78 ?_
                rw [show (if (d - d / 2 * 2) = 0 then (q_m_from z) (d / 2).toNatClampNeg else (q_m_to z) (d / 2).toNatClampNeg : Int32) = (q_m_to z) (d / 2).toNatClampNeg from by rw [if_neg c_8]] at jn_7
                exact jn_7
              · refine lv_aload_n hx hb d_Mod_reckon_58 rfl (lv_at hl 2 rfl) ?_
                refine va_get (D := (dC, dI)) (ci := 9) (v := .ref (ad 4)) (C := R_Mod) (T := F_Mod) (N := 31) hx hb hbw in_Mod hown hK hP 0 rfl rfl 6 (by decide) (hbw _ w_715) (fun _ h9 => h9) rfl d_Mod_reckon_59 ?_
                refine lv_iload hx hb d_Mod_reckon_62 (lv_at hl 0 rfl) ?_
                refine lv_iconst (v := 2) hx hb d_Mod_reckon_64 (by decide) ?_
                refine lv_idiv hx hb d_Mod_reckon_65 (by decide) ?_
                refine va_iald hx hb hK hP 4 0 rfl rfl (dv_in hI (rk_dv hz.1 hI0 hi c_6)) d_Mod_reckon_66 ?_
                refine lv_goto (tgt := 79) hx hb d_Mod_reckon_67 (by decide) ?_
                rw [show (if (d - d / 2 * 2) = 0 then (q_m_from z) (d / 2).toNatClampNeg else (q_m_to z) (d / 2).toNatClampNeg : Int32) = (q_m_from z) (d / 2).toNatClampNeg from by rw [if_pos c_8]] at jn_7
                exact jn_7
        refine lp_5 161 0 0 z ls H locs (rk_0 hI0) hz hP hS (lv_sub hl [0, 1, 2, 3, 4] rfl) (fun ls H locs hP hS hl => ?_)
        obtain ⟨y_22, hy_22⟩ : ∃ zz, zz = (Li_Mod_reckon a1 a2 161 0 0 z).2 := ⟨_, rfl⟩
        rw [← hy_22] at hP
        have hD : va_D A (wR cI cZ ad y_22) := hDx _
        have hzy_22 : ls1 x y_22 := by rw [hy_22]; exact (rk_Li x a1 a2 hI0 hM 161 0 0 z (rk_0 hI0) hz).1
        refine lv_goto (tgt := 31) hx hb d_Mod_reckon_216 (by decide) ?_
        subst hy_22
        exact ih ((Li_Mod_reckon a1 a2 161 0 0 z).1) ((Li_Mod_reckon a1 a2 161 0 0 z).2) ls H locs (by have h9 := (rk_Li x a1 a2 hI0 hM 161 0 0 z (rk_0 hI0) hz).2; have h8 : b01 0 = 0 := rfl; have h7 : b01 mo = 1 := if_neg c_4; omega) hzy_22 (by rw [hq, if_neg c_4]) hP hS (lv_sub hl [0, 1, 2, 3] rfl)
  exact loop rkF 1 (s_m_least y_3 (upd (q_m_least y_3) a1.toNatClampNeg 0)) ls H locs (by subst hy_3; exact rk_init x a1 a2) (by subst hy_3; exact rk_st x a1 a2) (by subst hy_3; rfl) hP hS (lv_sub hl [0, 1, 2, 3] rfl)
