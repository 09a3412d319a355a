/-! the law: each call of its loop -/
def LF (p : Program) (s : State) (m : MethodId) (meth : Method) (c : Code) (b L : Nat) (xs : Nat → Int32) (l : Launch) (dC : Nat → ClassId) (dI : Nat → Nat → Nat) (cI cZ cL : ClassId) (ad am : Nat → Nat) : Prop :=
  l.stackTraces = false ∧ p.tables.exec = Jvm.exec ∧ c.code = code ∧ meth.sig.returnType = ret ∧ c.maxLocals = 7 ∧ s.vm.findClass "PlanRowsLaw" = some m.cls ∧ (∀ w ∈ Cond.initialized "PlanRowsLaw" :: BW, w.before #[Value.ref b] s = true) ∧ va_X b L xs s s.heap ∧ b < s.heap.size ∧ meth.locks = false ∧ L ≤ 3072 ∧ ELA (fun q => s.heap.size ≤ q) s s.heap ∧ va_K (dC, dI) clsA [(cI, .int), (cZ, .boolean), (cL, .long)] s ∧ NW s ∧ aInj 30 ad ∧ aInj 21 am ∧ (∀ i j, i < 30 → j < 21 → ad i ≠ am j) ∧ (∀ i, i < 30 → s.heap.size ≤ ad i) ∧ (∀ j, j < 21 → s.heap.size ≤ am j)
def LI (s : State) (dC : Nat → ClassId) (dI : Nat → Nat → Nat) (cI cZ cL : ClassId) (ad am : Nat → Nat) (H : Heap) (locs : List Loc) (x : ST) (z : RT) (fo : Nat → Int64) : Prop :=
  va_P (dC, dI) clsA (wL cI cZ cL ad x fo) H ∧ va_P (dC, dI) clsA (wR cI cZ am z) H ∧ va_S (fun q => s.heap.size ≤ q) s.heap H locs ∧ Rel x z
theorem lw_keepM {D : va_G} {cI cZ : ClassId} {ad am : Nat → Nat} {z : RT} {H H1 : Heap} (h : va_P D clsA (wR cI cZ am z) H) (hd : ∀ i j, i < 30 → j < 21 → ad i ≠ am j) (hk : ∀ q : Nat, q < H.size → ¬ aC 30 ad H.size q → H1[q]? = H[q]?) : va_P D clsA (wR cI cZ am z) H1 := h.kept (fun k q hq => by
  obtain ⟨h1, h2⟩ := w_at (wR_ad cI cZ am z) hq
  have hlt := (h k q hq).lt
  refine hk _ hlt (fun h3 => ?_)
  rcases h3 with ⟨i, h4, h5⟩ | h3
  · exact hd i k h4 h1 (by rw [← h5, h2])
  · exact absurd hlt (Nat.not_lt.mpr h3))
theorem lw_keepC {D : va_G} {cI cZ cL : ClassId} {ad am : Nat → Nat} {x : ST} {fo : Nat → Int64} {H H1 : Heap} (h : va_P D clsA (wL cI cZ cL ad x fo) H) (hd : ∀ i j, i < 30 → j < 21 → ad i ≠ am j) (hk : ∀ q : Nat, q < H.size → ¬ aC 21 am H.size q → H1[q]? = H[q]?) : va_P D clsA (wL cI cZ cL ad x fo) H1 := h.kept (fun k q hq => by
  obtain ⟨h1, h2⟩ := w_at (wL_ad cI cZ cL ad x fo) hq
  have hlt := (h k q hq).lt
  refine hk _ hlt (fun h3 => ?_)
  rcases h3 with ⟨j, h4, h5⟩ | h3
  · exact hd k j h1 h4 (by rw [← h2, h5])
  · exact absurd hlt (Nat.not_lt.mpr h3))
theorem lw_aC {N n : Nat} {a : Nat → Nat} {H0 H : Heap} {locs : List Loc} {A : Nat → Prop} (hS : va_S A H0 H locs) (hn : H0.size = n) (hA : ∀ q, n ≤ q → A q) (ha : ∀ i, i < N → n ≤ a i) : ∀ q, aC N a H.size q → A q := fun q hq => by
  rcases hq with ⟨k, h1, h2⟩ | hq
  · exact hA q (by rw [h2]; exact ha k h1)
  · exact hA q (by have := hS.1; omega)
theorem lw_in {i : Int32} {L : Nat} (hi : 0 ≤ i.toInt ∧ i.toInt + 6 ≤ L) (hL : L ≤ 3072) (k : Int32) (hk : 0 ≤ k.toInt ∧ k.toInt ≤ 5) : vp_in (i + k) L := vp_in_iff.mpr (by
  have e : (i + k).toInt = i.toInt + k.toInt := by
    rw [Int32.toInt_add]
    exact Int.bmod_eq_of_le (by omega) (by omega)
  omega)
theorem cmp_self (x : Int64) : lg_cmp x x = 0 := by
  unfold lg_cmp
  rw [if_neg (show ¬ x > x from fun h => by have h : x < x := h; rw [Int64.lt_iff_toInt_lt] at h; omega), if_pos rfl]
theorem updL_0 (fo : Nat → Int64) (v : Int64) : vp_updL fo (0 : Int32).toNatClampNeg v (0 : Int32).toNatClampNeg = v := if_pos rfl
theorem k0_room {x : ST} {a1 a2 : Int32} (h : hv_room x a1 a2 = 0) : k_Plan_room x a1 a2 = 0 := by
  unfold hv_room at h
  by_cases c : k_Plan_room x a1 a2 = 0
  · exact c
  · rw [if_neg c] at h
    repeat' split at h
    all_goals exact absurd h (by decide)
theorem oc_room {x : ST} {z : RT} (h : Rel x z) (a1 a2 : Int32) (fo : Nat → Int64) (h0 : hv_room x a1 a2 = 0) : lg_cmp (ho_room x a1 a2 fo (0 : Int32).toNatClampNeg) ((g_Mod_room z a1 a2).1.toInt64) = 0 := by
  have hk := k0_room h0
  have r2 := (R_room h a1 a2).2.1 hk
  rw [show ho_room x a1 a2 fo = vp_updL fo (0 : Int32).toNatClampNeg (((g_Plan_room x a1 a2).1).toInt64) from if_pos hk, updL_0, r2]
  exact cmp_self _
theorem k0_door {x : ST} {a1 a2 a3 a4 : Int32} (h : hv_door x a1 a2 a3 a4 = 0) : k_Plan_door x a1 a2 a3 a4 = 0 := by
  unfold hv_door at h
  by_cases c : k_Plan_door x a1 a2 a3 a4 = 0
  · exact c
  · rw [if_neg c] at h
    repeat' split at h
    all_goals exact absurd h (by decide)
theorem oc_door {x : ST} {z : RT} (h : Rel x z) (a1 a2 a3 a4 : Int32) (fo : Nat → Int64) (h0 : hv_door x a1 a2 a3 a4 = 0) : lg_cmp (ho_door x a1 a2 a3 a4 fo (0 : Int32).toNatClampNeg) ((g_Mod_door z a1 a2 a3 a4).1.toInt64) = 0 := by
  have hk := k0_door h0
  have r2 := (R_door h a1 a2 a3 a4).2.1 hk
  rw [show ho_door x a1 a2 a3 a4 fo = vp_updL fo (0 : Int32).toNatClampNeg (((g_Plan_door x a1 a2 a3 a4).1).toInt64) from if_pos hk, updL_0, r2]
  exact cmp_self _
theorem k0_way {x : ST} {a1 a2 a3 : Int32} (h : hv_way x a1 a2 a3 = 0) : k_Plan_way x a1 a2 a3 = 0 := by
  unfold hv_way at h
  by_cases c : k_Plan_way x a1 a2 a3 = 0
  · exact c
  · rw [if_neg c] at h
    repeat' split at h
    all_goals exact absurd h (by decide)
theorem oc_way {x : ST} {z : RT} (h : Rel x z) (a1 a2 a3 : Int32) (fo : Nat → Int64) (h0 : hv_way x a1 a2 a3 = 0) : lg_cmp (ho_way x a1 a2 a3 fo (0 : Int32).toNatClampNeg) ((g_Mod_way z a1 a2 a3).1.toInt64) = 0 := by
  have hk := k0_way h0
  have r2 := (R_way h a1 a2 a3).2.1 hk
  rw [show ho_way x a1 a2 a3 fo = vp_updL fo (0 : Int32).toNatClampNeg (((g_Plan_way x a1 a2 a3).1).toInt64) from if_pos hk, updL_0, r2]
  exact cmp_self _
theorem k0_step {x : ST} {a1 : Int32} (h : hv_step x a1 = 0) : k_Plan_step x a1 = 0 := by
  unfold hv_step at h
  by_cases c : k_Plan_step x a1 = 0
  · exact c
  · rw [if_neg c] at h
    repeat' split at h
    all_goals exact absurd h (by decide)
theorem oc_step {x : ST} {z : RT} (h : Rel x z) (a1 : Int32) (fo : Nat → Int64) (h0 : hv_step x a1 = 0) : lg_cmp (ho_step x a1 fo (0 : Int32).toNatClampNeg) ((g_Mod_step z a1).1.toInt64) = 0 := by
  have hk := k0_step h0
  have r2 := (R_step h a1).2.1 hk
  rw [show ho_step x a1 fo = vp_updL fo (0 : Int32).toNatClampNeg ((f_Plan_step x a1).toInt64) from if_pos hk, updL_0, r2]
  exact cmp_self _
theorem k0_told {x : ST} {a1 : Int32} (h : hv_told x a1 = 0) : k_Plan_told x a1 = 0 := by
  unfold hv_told at h
  by_cases c : k_Plan_told x a1 = 0
  · exact c
  · rw [if_neg c] at h
    repeat' split at h
    all_goals exact absurd h (by decide)
theorem oc_told {x : ST} {z : RT} (h : Rel x z) (a1 : Int32) (fo : Nat → Int64) (h0 : hv_told x a1 = 0) : lg_cmp (ho_told x a1 fo (0 : Int32).toNatClampNeg) ((g_Mod_told z a1).1.toInt64) = 0 := by
  have hk := k0_told h0
  have r2 := (R_told h a1).2.1 hk
  rw [show ho_told x a1 fo = vp_updL fo (0 : Int32).toNatClampNeg ((f_Plan_told x a1).toInt64) from if_pos hk, updL_0, r2]
  exact cmp_self _
theorem k0_hoses {x : ST} {a1 a2 : Int32} (h : hv_hoses x a1 a2 = 0) : k_Plan_hoses x a1 a2 = 0 := by
  unfold hv_hoses at h
  by_cases c : k_Plan_hoses x a1 a2 = 0
  · exact c
  · rw [if_neg c] at h
    repeat' split at h
    all_goals exact absurd h (by decide)
theorem oc_hoses {x : ST} {z : RT} (h : Rel x z) (a1 a2 : Int32) (fo : Nat → Int64) (h0 : hv_hoses x a1 a2 = 0) : lg_cmp (ho_hoses x a1 a2 fo (0 : Int32).toNatClampNeg) ((g_Mod_hoses z a1 a2).1.toInt64) = 0 := by
  have hk := k0_hoses h0
  have r2 := (R_hoses h a1 a2).2.1 hk
  rw [show ho_hoses x a1 a2 fo = vp_updL fo (0 : Int32).toNatClampNeg (((g_Plan_hoses x a1 a2).1).toInt64) from if_pos hk, updL_0, r2]
  exact cmp_self _
theorem k0_trapped {x : ST} {a1 : Int32} (h : hv_trapped x a1 = 0) : k_Plan_trapped x a1 = 0 := by
  unfold hv_trapped at h
  by_cases c : k_Plan_trapped x a1 = 0
  · exact c
  · rw [if_neg c] at h
    repeat' split at h
    all_goals exact absurd h (by decide)
theorem oc_trapped {x : ST} {z : RT} (h : Rel x z) (a1 : Int32) (fo : Nat → Int64) (h0 : hv_trapped x a1 = 0) : lg_cmp (ho_trapped x a1 fo (0 : Int32).toNatClampNeg) ((g_Mod_trapped z a1).1.toInt64) = 0 := by
  have hk := k0_trapped h0
  have r2 := (R_trapped h a1).2.1 hk
  rw [show ho_trapped x a1 fo = vp_updL fo (0 : Int32).toNatClampNeg (((g_Plan_trapped x a1).1).toInt64) from if_pos hk, updL_0, r2]
  exact cmp_self _
theorem k0_missing {x : ST} {a1 : Int32} (h : hv_missing x a1 = 0) : k_Plan_missing x a1 = 0 := by
  unfold hv_missing at h
  by_cases c : k_Plan_missing x a1 = 0
  · exact c
  · rw [if_neg c] at h
    repeat' split at h
    all_goals exact absurd h (by decide)
theorem oc_missing {x : ST} {z : RT} (h : Rel x z) (a1 : Int32) (fo : Nat → Int64) (h0 : hv_missing x a1 = 0) : lg_cmp (ho_missing x a1 fo (0 : Int32).toNatClampNeg) ((g_Mod_missing z a1).1.toInt64) = 0 := by
  have hk := k0_missing h0
  have r2 := (R_missing h a1).2.1 hk
  rw [show ho_missing x a1 fo = vp_updL fo (0 : Int32).toNatClampNeg ((f_Plan_missing x a1).toInt64) from if_pos hk, updL_0, r2]
  exact cmp_self _
theorem k0_alarm {x : ST} {a1 a2 : Int32} (h : hv_alarm x a1 a2 = 0) : k_Plan_alarm x a1 a2 = 0 := by
  unfold hv_alarm at h
  by_cases c : k_Plan_alarm x a1 a2 = 0
  · exact c
  · rw [if_neg c] at h
    repeat' split at h
    all_goals exact absurd h (by decide)
theorem oc_alarm {x : ST} {z : RT} (h : Rel x z) (a1 a2 : Int32) (fo : Nat → Int64) (h0 : hv_alarm x a1 a2 = 0) : lg_cmp (ho_alarm x a1 a2 fo (0 : Int32).toNatClampNeg) ((g_Mod_alarm z a1 a2).1.toInt64) = 0 := by
  have hk := k0_alarm h0
  have r2 := (R_alarm h a1 a2).2.1 hk
  rw [show ho_alarm x a1 a2 fo = vp_updL fo (0 : Int32).toNatClampNeg ((f_Plan_alarm x a1 a2).toInt64) from if_pos hk, updL_0, r2]
  exact cmp_self _
theorem k0_people {x : ST} {a1 a2 a3 a4 : Int32} (h : hv_people x a1 a2 a3 a4 = 0) : k_Plan_people x a1 a2 a3 a4 = 0 := by
  unfold hv_people at h
  by_cases c : k_Plan_people x a1 a2 a3 a4 = 0
  · exact c
  · rw [if_neg c] at h
    repeat' split at h
    all_goals exact absurd h (by decide)
theorem oc_people {x : ST} {z : RT} (h : Rel x z) (a1 a2 a3 a4 : Int32) (fo : Nat → Int64) (h0 : hv_people x a1 a2 a3 a4 = 0) : lg_cmp (ho_people x a1 a2 a3 a4 fo (0 : Int32).toNatClampNeg) ((g_Mod_people z a1 a2 a3 a4).1.toInt64) = 0 := by
  have hk := k0_people h0
  have r2 := (R_people h a1 a2 a3 a4).2.1 hk
  rw [show ho_people x a1 a2 a3 a4 fo = vp_updL fo (0 : Int32).toNatClampNeg (((g_Plan_people x a1 a2 a3 a4).1).toInt64) from if_pos hk, updL_0, r2]
  exact cmp_self _
theorem k0_inside {x : ST} {a1 a2 : Int32} (h : hv_inside x a1 a2 = 0) : k_Plan_inside x a1 a2 = 0 := by
  unfold hv_inside at h
  by_cases c : k_Plan_inside x a1 a2 = 0
  · exact c
  · rw [if_neg c] at h
    repeat' split at h
    all_goals exact absurd h (by decide)
theorem oc_inside {x : ST} {z : RT} (h : Rel x z) (a1 a2 : Int32) (fo : Nat → Int64) (h0 : hv_inside x a1 a2 = 0) : lg_cmp (ho_inside x a1 a2 fo (0 : Int32).toNatClampNeg) ((g_Mod_inside z a1 a2).1.toInt64) = 0 := by
  have hk := k0_inside h0
  have r2 := (R_inside h a1 a2).2.1 hk
  rw [show ho_inside x a1 a2 fo = vp_updL fo (0 : Int32).toNatClampNeg ((f_Plan_inside x a1 a2).toInt64) from if_pos hk, updL_0, r2]
  exact cmp_self _
theorem k0_window {x : ST} {a1 a2 a3 a4 : Int32} (h : hv_window x a1 a2 a3 a4 = 0) : k_Plan_window x a1 a2 a3 a4 = 0 := by
  unfold hv_window at h
  by_cases c : k_Plan_window x a1 a2 a3 a4 = 0
  · exact c
  · rw [if_neg c] at h
    repeat' split at h
    all_goals exact absurd h (by decide)
theorem oc_window {x : ST} {z : RT} (h : Rel x z) (a1 a2 a3 a4 : Int32) (fo : Nat → Int64) (h0 : hv_window x a1 a2 a3 a4 = 0) : lg_cmp (ho_window x a1 a2 a3 a4 fo (0 : Int32).toNatClampNeg) ((g_Mod_window z a1 a2 a3 a4).1.toInt64) = 0 := by
  have hk := k0_window h0
  have r2 := (R_window h a1 a2 a3 a4).2.1 hk
  rw [show ho_window x a1 a2 a3 a4 fo = vp_updL fo (0 : Int32).toNatClampNeg (((g_Plan_window x a1 a2 a3 a4).1).toInt64) from if_pos hk, updL_0, r2]
  exact cmp_self _
theorem k0_reaches {x : ST} {a1 a2 a3 a4 a5 : Int32} (h : hv_reaches x a1 a2 a3 a4 a5 = 0) : k_Plan_reaches x a1 a2 a3 a4 a5 = 0 := by
  unfold hv_reaches at h
  by_cases c : k_Plan_reaches x a1 a2 a3 a4 a5 = 0
  · exact c
  · rw [if_neg c] at h
    repeat' split at h
    all_goals exact absurd h (by decide)
theorem oc0_reaches {x : ST} {z : RT} (h : Rel x z) (a1 a2 a3 a4 a5 : Int32) (fo : Nat → Int64) (h0 : hv_reaches x a1 a2 a3 a4 a5 = 0) (c1 : (g_Mod_reaches z a1 a2 a3 a4 a5).1 = 0) : lg_cmp (ho_reaches x a1 a2 a3 a4 a5 fo (0 : Int32).toNatClampNeg) 0 = 0 := by
  have hk := k0_reaches h0
  have r2 := (R_reaches h a1 a2 a3 a4 a5).2.1 hk
  rw [show ho_reaches x a1 a2 a3 a4 a5 fo = vp_updL fo (0 : Int32).toNatClampNeg (if f_Plan_reaches x a1 a2 a3 a4 a5 = 0 then 0 else 1) from if_pos hk, updL_0, r2, if_pos c1]
  exact cmp_self _
theorem oc1_reaches {x : ST} {z : RT} (h : Rel x z) (a1 a2 a3 a4 a5 : Int32) (fo : Nat → Int64) (h0 : hv_reaches x a1 a2 a3 a4 a5 = 0) (c1 : ¬ (g_Mod_reaches z a1 a2 a3 a4 a5).1 = 0) : lg_cmp (ho_reaches x a1 a2 a3 a4 a5 fo (0 : Int32).toNatClampNeg) 1 = 0 := by
  have hk := k0_reaches h0
  have r2 := (R_reaches h a1 a2 a3 a4 a5).2.1 hk
  rw [show ho_reaches x a1 a2 a3 a4 a5 fo = vp_updL fo (0 : Int32).toNatClampNeg (if f_Plan_reaches x a1 a2 a3 a4 a5 = 0 then 0 else 1) from if_pos hk, updL_0, r2, if_neg c1]
  exact cmp_self _
theorem k0_ladder {x : ST} {a1 a2 a3 a4 : Int32} (h : hv_ladder x a1 a2 a3 a4 = 0) : k_Plan_ladder x a1 a2 a3 a4 = 0 := by
  unfold hv_ladder at h
  by_cases c : k_Plan_ladder x a1 a2 a3 a4 = 0
  · exact c
  · rw [if_neg c] at h
    repeat' split at h
    all_goals exact absurd h (by decide)
theorem oc_ladder {x : ST} {z : RT} (h : Rel x z) (a1 a2 a3 a4 : Int32) (fo : Nat → Int64) (h0 : hv_ladder x a1 a2 a3 a4 = 0) : lg_cmp (ho_ladder x a1 a2 a3 a4 fo (0 : Int32).toNatClampNeg) ((g_Mod_ladder z a1 a2 a3 a4).1.toInt64) = 0 := by
  have hk := k0_ladder h0
  have r2 := (R_ladder h a1 a2 a3 a4).2.1 hk
  rw [show ho_ladder x a1 a2 a3 a4 fo = vp_updL fo (0 : Int32).toNatClampNeg ((f_Plan_ladder x a1 a2 a3 a4).toInt64) from if_pos hk, updL_0, r2]
  exact cmp_self _
theorem k0_old {x : ST} {a1 : Int32} (h : hv_old x a1 = 0) : k_Plan_old x a1 = 0 := by
  unfold hv_old at h
  by_cases c : k_Plan_old x a1 = 0
  · exact c
  · rw [if_neg c] at h
    repeat' split at h
    all_goals exact absurd h (by decide)
theorem oc0_old {x : ST} {z : RT} (h : Rel x z) (a1 : Int32) (fo : Nat → Int64) (h0 : hv_old x a1 = 0) (c1 : (g_Mod_old z a1).1 = 0) : lg_cmp (ho_old x a1 fo (0 : Int32).toNatClampNeg) 0 = 0 := by
  have hk := k0_old h0
  have r2 := (R_old h a1).2.1 hk
  rw [show ho_old x a1 fo = vp_updL fo (0 : Int32).toNatClampNeg (if f_Plan_old x a1 = 0 then 0 else 1) from if_pos hk, updL_0, r2, if_pos c1]
  exact cmp_self _
theorem oc1_old {x : ST} {z : RT} (h : Rel x z) (a1 : Int32) (fo : Nat → Int64) (h0 : hv_old x a1 = 0) (c1 : ¬ (g_Mod_old z a1).1 = 0) : lg_cmp (ho_old x a1 fo (0 : Int32).toNatClampNeg) 1 = 0 := by
  have hk := k0_old h0
  have r2 := (R_old h a1).2.1 hk
  rw [show ho_old x a1 fo = vp_updL fo (0 : Int32).toNatClampNeg (if f_Plan_old x a1 = 0 then 0 else 1) from if_pos hk, updL_0, r2, if_neg c1]
  exact cmp_self _
theorem k0_count {x : ST} {a1 : Int32} (h : hv_count x a1 = 0) : k_Plan_count x a1 = 0 := by
  unfold hv_count at h
  by_cases c : k_Plan_count x a1 = 0
  · exact c
  · rw [if_neg c] at h
    repeat' split at h
    all_goals exact absurd h (by decide)
theorem oc_count {x : ST} {z : RT} (h : Rel x z) (a1 : Int32) (fo : Nat → Int64) (h0 : hv_count x a1 = 0) : lg_cmp (ho_count x a1 fo (0 : Int32).toNatClampNeg) ((g_Mod_count z a1).1.toInt64) = 0 := by
  have hk := k0_count h0
  have r2 := (R_count h a1).2.1 hk
  rw [show ho_count x a1 fo = vp_updL fo (0 : Int32).toNatClampNeg ((f_Plan_count x a1).toInt64) from if_pos hk, updL_0, r2]
  exact cmp_self _
