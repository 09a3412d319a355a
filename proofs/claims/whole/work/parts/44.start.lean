/-! the start of all: no object yet -/
def z_0 : RT := (fun _ => 0, fun _ => 0, fun _ => 0, fun _ => 0, fun _ => 0, fun _ => 0, fun _ => 0, fun _ => 0, fun _ => 0, fun _ => 0, fun _ => 0, fun _ => 0, fun _ => 0, fun _ => 0, fun _ => 0, fun _ => 0, fun _ => 0, fun _ => 0, fun _ => 0, fun _ => 0, 0, 0, 0, 0, 0, -1, 0, 0, 0, 0, 365)
theorem kcnt_0 : ∀ n, kcnt (fun _ => 0) n = 0 := by
  intro n
  induction n with
  | zero => rfl
  | succ n ih => show kcnt _ n + 0 = 0; rw [ih]
theorem z0_rn : q_m_rooms z_0 = 0 ∧ q_m_doors z_0 = 0 ∧ q_m_detectors z_0 = 0 ∧ q_m_rows z_0 = 0 ∧ q_m_windows z_0 = 0 ∧ q_m_steps z_0 = 0 ∧ q_m_hand z_0 = (fun _ => 0) ∧ q_m_looked z_0 = 0 := ⟨rfl, rfl, rfl, rfl, rfl, rfl, rfl, rfl⟩
theorem no_j {j : Nat} (h : (j : Int) < (0 : Int32).toInt) : False := by rw [show (0 : Int32).toInt = 0 from rfl] at h; omega
theorem Rel_0 : Rel x_0 z_0 := by
  obtain ⟨h1, h2, h3, h4, h5, h6, h7, h8⟩ := z0_rn
  refine ⟨⟨rfl, rfl, rfl, rfl, rfl, rfl, rfl, rfl, rfl, rfl, rfl, rfl, rfl, rfl, rfl, rfl, rfl, rfl, rfl, rfl, rfl, rfl, rfl, rfl, rfl, rfl, rfl⟩, ?_, ?_, ?_⟩
  · unfold RIn
    rw [h1, h2, h3, h4, h5, h6]
    exact ⟨by decide, by decide, by decide, by decide, by decide, by decide, fun j hj => (no_j hj).elim, fun j hj => (no_j hj).elim⟩
  · unfold RM
    rw [h2]
    exact fun j hj => (no_j hj).elim
  · unfold RelC
    rw [h1, h2, h3, h4, h7, h8]
    refine ⟨fun j hj => (no_j hj).elim, fun j hj => (no_j hj).elim, fun j hj => (no_j hj).elim, fun i j _ hj => (no_j hj).elim, fun j hj => (no_j hj).elim, fun j => Or.inl rfl, ?_, by decide, fun j hj => (no_j hj).elim⟩
    rw [kcnt_0]; rfl
def amM (h0 : Nat) (u : Nat → Nat) : Nat → Nat := fun k => match k with
  | 0 => h0
  | k + 1 => u k
theorem wf_Mod_eq (cI cZ : ClassId) (h0 : Nat) (u : Nat → Nat) : wf_Mod cI cZ h0 u = wR cI cZ (amM h0 u) z_0 := rfl
def adO (u : Nat → Nat) (q : Nat) : Nat → Nat := fun k => if k = 29 then q else u k
theorem wL_eq (cI cZ cL : ClassId) (u : Nat → Nat) (q : Nat) (x : ST) (fo : Nat → Int64) : wL cI cZ cL (adO u q) x fo = wC cI cZ u x ++ [(q, .inl (cL, 1, .inr (.inl fo)))] := rfl
theorem D_inj {A : Nat → Prop} {N : Nat} {ad : Nat → Nat} {ws : va_W} (hD : va_D A ws) (h : ws.map (·.1) = (List.range N).map ad) : aInj N ad ∧ ∀ k, k < N → A (ad k) := by
  have key : ∀ k, k < N → ∃ q : Nat × va_E, ws[k]? = some q ∧ q.1 = ad k := by
    intro k hk
    have h1 : (ws.map (·.1))[k]? = some (ad k) := by rw [h, List.getElem?_map, List.getElem?_range hk]; rfl
    rw [List.getElem?_map] at h1
    cases hw : ws[k]? with
    | none => rw [hw] at h1; cases h1
    | some q => rw [hw] at h1; exact ⟨q, rfl, Option.some.inj h1⟩
  refine ⟨fun i j hi hj e => ?_, fun k hk => ?_⟩
  · obtain ⟨q1, a1, b1⟩ := key i hi
    obtain ⟨q2, a2, b2⟩ := key j hj
    exact hD.1 i j q1 q2 a1 a2 (by rw [b1, b2, e])
  · obtain ⟨q, a1, b1⟩ := key k hk
    rw [← b1]; exact hD.2 k q a1
/-! what the exceptions want, as the heap grows -/
def ELA (A : Nat → Prop) (U : State) (H : Heap) : Prop := (∀ w ∈ xnW, va_Nw w U) ∧ vx_Zq Bundle.tN "UNASSIGNED_STACK" Bundle.steD A U H ∧ vx_Zq Bundle.tN "SUPPRESSED_SENTINEL" Bundle.listD A U H ∧ (∀ q ∈ strL, ∃ a, vk_R "PlanRows" q.1 q.2 a U) ∧ ∀ i j, i < 5 → j < 5 → 0 < i → 0 < j → i ≠ j → va_Nc (xnm i) (xnm j) U
theorem ELA.to {A : Nat → Prop} {s U : State} {H : Heap} {locs : List Loc} (h : ELA A s s.heap) (hS : va_S A s.heap H locs) (hU : U.heap = H) (hW : s.WarmedH U.vm) : EL U := by
  obtain ⟨h1, h2, h3, h4, h5⟩ := h
  refine ⟨⟨fun w hw => ?_, ?_, ?_, fun q hq => ?_⟩, fun i j a b c d e => va_Nc.moved hW.alike (h5 i j a b c d e)⟩
  · have h9 := h1 w hw
    simp only [xnW, List.mem_cons, List.not_mem_nil, or_false] at hw
    rcases hw with rfl | rfl | rfl | rfl | rfl | rfl | rfl <;> first | exact va_Nw.warmD hW h9 | exact xn_castW hW h9
  · rw [hU]; exact (vx_Zq.moved hW.alike (vx_Zq.kept h2 (fun a q1 q2 => hS.2.1 a q1 q2))).narrow (fun _ h => h.elim)
  · rw [hU]; exact (vx_Zq.moved hW.alike (vx_Zq.kept h3 (fun a q1 q2 => hS.2.1 a q1 q2))).narrow (fun _ h => h.elim)
  · obtain ⟨a, ha⟩ := h4 q hq
    exact ⟨a, ha.warm hW⟩
set_option maxRecDepth 100000 in
theorem xn_tbl : ∀ w ∈ xnW, w ∈ tables_1 := by
  intro w hw
  simp only [xnW, List.mem_cons, List.not_mem_nil, or_false] at hw
  rcases hw with rfl | rfl | rfl | rfl | rfl | rfl | rfl
  · exact List.mem_of_getElem? (i := 240) rfl
  · exact List.mem_of_getElem? (i := 242) rfl
  · exact List.mem_of_getElem? (i := 244) rfl
  · exact List.mem_of_getElem? (i := 238) rfl
  · exact List.mem_of_getElem? (i := 310) rfl
  · exact List.mem_of_getElem? (i := 374) rfl
  · exact List.mem_of_getElem? (i := 333) rfl
set_option maxRecDepth 100000 in
theorem nw_tbl : ∀ w ∈ nestW, w ∈ tables_1 := by
  intro w hw
  simp only [nestW, List.mem_cons, List.not_mem_nil, or_false] at hw
  rcases hw with rfl | rfl | rfl | rfl | rfl | rfl | rfl | rfl | rfl | rfl | rfl | rfl | rfl | rfl | rfl | rfl | rfl
  · exact List.mem_of_getElem? (i := 30) rfl
  · exact List.mem_of_getElem? (i := 38) rfl
  · exact List.mem_of_getElem? (i := 39) rfl
  · exact List.mem_of_getElem? (i := 52) rfl
  · exact List.mem_of_getElem? (i := 61) rfl
  · exact List.mem_of_getElem? (i := 62) rfl
  · exact List.mem_of_getElem? (i := 76) rfl
  · exact List.mem_of_getElem? (i := 82) rfl
  · exact List.mem_of_getElem? (i := 110) rfl
  · exact List.mem_of_getElem? (i := 116) rfl
  · exact List.mem_of_getElem? (i := 118) rfl
  · exact List.mem_of_getElem? (i := 120) rfl
  · exact List.mem_of_getElem? (i := 132) rfl
  · exact List.mem_of_getElem? (i := 140) rfl
  · exact List.mem_of_getElem? (i := 152) rfl
  · exact List.mem_of_getElem? (i := 174) rfl
  · exact List.mem_of_getElem? (i := 182) rfl
theorem nw_ot : ∀ w ∈ nestW, w.onTables = true := by decide +kernel
theorem NW_start {s : State} {A : Array Value} (hts : ∀ w ∈ tables_1, w.before A s = true) : NW s := fun w hw => va_Nw.of (nw_ot w hw) (hts w (nw_tbl w hw))
set_option maxRecDepth 100000 in
theorem st_tbl : ∀ q ∈ strL, Cond.stringRef "PlanRows" q.1 q.2 ∈ tables_1 := by
  intro q hq
  simp only [strL, List.mem_cons, List.not_mem_nil, or_false] at hq
  rcases hq with rfl | rfl | rfl | rfl | rfl | rfl | rfl | rfl | rfl | rfl | rfl | rfl | rfl
  · exact List.mem_of_getElem? (i := 278) rfl
  · exact List.mem_of_getElem? (i := 317) rfl
  · exact List.mem_of_getElem? (i := 340) rfl
  · exact List.mem_of_getElem? (i := 363) rfl
  · exact List.mem_of_getElem? (i := 381) rfl
  · exact List.mem_of_getElem? (i := 403) rfl
  · exact List.mem_of_getElem? (i := 409) rfl
  · exact List.mem_of_getElem? (i := 534) rfl
  · exact List.mem_of_getElem? (i := 546) rfl
  · exact List.mem_of_getElem? (i := 591) rfl
  · exact List.mem_of_getElem? (i := 621) rfl
  · exact List.mem_of_getElem? (i := 660) rfl
  · exact List.mem_of_getElem? (i := 702) rfl
theorem st_nar : ∀ q ∈ strL, Cond.exactly (.string "PlanRows" q.1) "java/lang/String" ∈ flatC (Jvm.Cond.and given_1 narrow_1) := by decide +kernel
theorem nc_nar : ∀ i j : Fin 5, 0 < i.1 → 0 < j.1 → i ≠ j → Cond.not (.castable (xnm i) (xnm j)) ∈ flatC (Jvm.Cond.and given_1 narrow_1) := by decide +kernel
theorem rf_nar : Cond.isRef (.static Bundle.tN "UNASSIGNED_STACK" Bundle.steD) ∈ flatC (Jvm.Cond.and given_1 narrow_1) ∧ Cond.isRef (.static Bundle.tN "SUPPRESSED_SENTINEL" Bundle.listD) ∈ flatC (Jvm.Cond.and given_1 narrow_1) := by decide +kernel
theorem ELA_start {s : State} {a : Array Value} (hts : ∀ w ∈ tables_1, w.before a s = true) (hg : (Jvm.Cond.and given_1 narrow_1).before a s = true) : ELA (fun q => s.heap.size ≤ q) s s.heap := by
  have hs := flat_of_before _ hg
  refine ⟨fun w hw => va_Nw.of (xn_ot w hw) (hts w (xn_tbl w hw)), ?_, ?_, fun q hq => ?_, fun i j hi hj h0 h1 hne => ?_⟩
  · exact vx_Zqof (hts _ (List.mem_of_getElem? (i := 263) rfl)) (hts _ (List.mem_of_getElem? (i := 11) rfl)) (hs _ rf_nar.1) (fun q h1 h2 => Nat.not_lt.mpr h2 h1)
  · exact vx_Zqof (hts _ (List.mem_of_getElem? (i := 265) rfl)) (hts _ (List.mem_of_getElem? (i := 11) rfl)) (hs _ rf_nar.2) (fun q h1 h2 => Nat.not_lt.mpr h2 h1)
  · obtain ⟨b, -, -, -, hb, -⟩ := Cond.exactly_spec (hs _ (st_nar q hq))
    exact ⟨b, vk_R.of (hts _ (st_tbl q hq)) hb⟩
  · exact va_Nc.of (hs _ (nc_nar ⟨i, hi⟩ ⟨j, hj⟩ h0 h1 (fun q => hne (Fin.mk.inj q))))
theorem arr_at {s : State} {a : Array Value} {ty : FieldType} (h : (Cond.arrayClass ty).before a s = true) (hty : ∀ C, ty ≠ .object C) : ∃ cA : ClassId, ArrOfT s cA ty ∧ va_RA s cA ty := by
  obtain ⟨cA, kA, comp, h1, h2, h3⟩ := Cond.arrayClass_spec h
  refine ⟨cA, fun n z => ⟨fun k h => (by cases h), kA, h2, comp, h3⟩, ?_⟩
  cases ty with
  | object C => exact absurd rfl (hty C)
  | _ => exact h1
theorem K_start {s : State} {a : Array Value} (hts : ∀ w ∈ BW, w.before a s = true) : ∃ (dC : Nat → ClassId) (dI : Nat → Nat → Nat) (cI cZ cL : ClassId), va_K (dC, dI) clsA [(cI, .int), (cZ, .boolean), (cL, .long)] s := by
  obtain ⟨cI, i1⟩ := arr_at (hts _ w_49) (fun C h => by cases h)
  obtain ⟨cZ, i2⟩ := arr_at (hts _ w_88) (fun C h => by cases h)
  obtain ⟨cL, i3⟩ := arr_at (hts _ w_940) (fun C h => by cases h)
  obtain ⟨k0, s0, j0⟩ := u_known (C := R_Crowd) (T := F_Crowd) (N := 5) hts in_Crowd (hts _ w_151)
  obtain ⟨k1, s1, j1⟩ := u_known (C := R_Det) (T := F_Det) (N := 4) hts in_Det (hts _ w_131)
  obtain ⟨k2, s2, j2⟩ := u_known (C := R_Doors) (T := F_Doors) (N := 5) hts in_Doors (hts _ w_51)
  obtain ⟨k3, s3, j3⟩ := u_known (C := R_Keys) (T := F_Keys) (N := 2) hts in_Keys (hts _ w_75)
  obtain ⟨k4, s4, j4⟩ := u_known (C := R_Rooms) (T := F_Rooms) (N := 4) hts in_Rooms (hts _ w_29)
  obtain ⟨k5, s5, j5⟩ := u_known (C := R_Route) (T := F_Route) (N := 4) hts in_Route (hts _ w_109)
  obtain ⟨k6, s6, j6⟩ := u_known (C := R_Search) (T := F_Search) (N := 4) hts in_Search (hts _ w_90)
  obtain ⟨k7, s7, j7⟩ := u_known (C := R_Win) (T := F_Win) (N := 4) hts in_Win (hts _ w_173)
  obtain ⟨k8, s8, j8⟩ := u_known (C := R_Plan) (T := F_Plan) (N := 10) hts in_Plan (hts _ w_21)
  obtain ⟨k9, s9, j9⟩ := u_known (C := R_Mod) (T := F_Mod) (N := 31) hts in_Mod (hts _ w_704)
  refine ⟨fun k => [k0, k1, k2, k3, k4, k5, k6, k7, k8, k9].getD k 0, fun k => match k with | 0 => s0 | 1 => s1 | 2 => s2 | 3 => s3 | 4 => s4 | 5 => s5 | 6 => s6 | 7 => s7 | 8 => s8 | _ => s9, cI, cZ, cL, fun k q hk => ?_, fun k q hk => ?_⟩
  · match k, hk with
    | 0, hk => cases hk; exact j0
    | 1, hk => cases hk; exact j1
    | 2, hk => cases hk; exact j2
    | 3, hk => cases hk; exact j3
    | 4, hk => cases hk; exact j4
    | 5, hk => cases hk; exact j5
    | 6, hk => cases hk; exact j6
    | 7, hk => cases hk; exact j7
    | 8, hk => cases hk; exact j8
    | 9, hk => cases hk; exact j9
  · match k, hk with
    | 0, hk => cases hk; exact i1
    | 1, hk => cases hk; exact i2
    | 2, hk => cases hk; exact i3
