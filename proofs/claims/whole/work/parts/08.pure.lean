/-- the sizes are within their rows -/
def CIn (x : ST) : Prop := (0 ≤ (q_rn x).toInt ∧ (q_rn x).toInt ≤ 40) ∧ (0 ≤ (q_dn x).toInt ∧ (q_dn x).toInt ≤ 80) ∧ (0 ≤ (q_tc x).toInt ∧ (q_tc x).toInt ≤ 100) ∧ (0 ≤ (q_pc x).toInt ∧ (q_pc x).toInt ≤ 60) ∧ (0 ≤ (q_wc x).toInt ∧ (q_wc x).toInt ≤ 30) ∧ (0 ≤ (q_rl x).toInt ∧ (q_rl x).toInt ≤ 40)
theorem ix_lt {a n : Int32} {N : Nat} (h0 : ¬ a < 0) (h1 : ¬ n ≤ a) (hn : n.toInt ≤ N) : vp_in a N := vp_in_iff.mpr (by
  rw [Int32.lt_iff_toInt_lt] at h0
  rw [Int32.le_iff_toInt_le] at h1
  have h2 : (0 : Int32).toInt = 0 := rfl
  omega)
def f_Rooms_has (x : ST) (a1 : Int32) : Int32 := if a1 < 0 then 0 else (if (q_rn x) ≤ a1 then 0 else 1)
set_option maxHeartbeats 4000000 in
set_option maxRecDepth 100000 in
theorem c_Rooms_has (l : Launch) (dC : Nat → ClassId) (dI : Nat → Nat → Nat) (cI cZ : ClassId) (ad : Nat → Nat) (x : ST) (hI : CIn x) (a1 : Int32) : MX l y_Rooms_has (Cond.code y_Rooms_has b_Rooms_has 2 (some .boolean) :: BW) { frames := 0, cells := 0, slots := 0, locals := 0 } (PC (dC, dI) [(cI, .int), (cZ, .boolean)] (wC cI cZ ad x) [.ref (ad 1), .int a1]) (PQ (some (.int (f_Rooms_has x a1)))) 0 0 (fun _ => False) := by
  refine MX.ofW (cc := b_Rooms_has) (maxL := 2) (ret := (some .boolean)) (by decide) rfl ?_
  intro p e s m args below meth c s₁ B hml hex hv
  obtain ⟨rfl, hP, hK, hN⟩ := hv
  have hx := B.exec
  have hb := B.bytes
  have hr := B.returns
  have hts := atoms_spec (ws := Cond.code y_Rooms_has b_Rooms_has 2 (some .boolean) :: BW) B.pre
  have hbw : ∀ w ∈ BW, w.before ([.ref (ad 1), .int a1]).toArray s = true := fun w h => hts w (List.mem_cons_of_mem _ h)
  have hown : s.vm.findClass "PlanRows$Rooms" = some m.cls := findClass_of_methodNamed B.named
  have hlocks := B.notSynchronized
  have hl := lv_entry ([.ref (ad 1), .int a1]) (n := 2) (Nat.le_of_ble_eq_true rfl)
  rw [lg_entry_eq]
  generalize (lg_sl ([.ref (ad 1), .int a1]) ++ List.replicate (2 - (lg_sl ([.ref (ad 1), .int a1])).length) Slot.unset).toArray = ls at hl ⊢
  have hl : lv_has ls 2 [(0, .ref (ad 1)), (1, .int a1)] := hl
  refine lv_iload_n hx hb d_Rooms_has_0 rfl (lv_at hl 1 rfl) ?_
  refine lv_if_lt (tgt := 16) hx hb d_Rooms_has_1 (by decide) (fun c_1 => ?_) (fun c_1 => ?_)
  · refine lv_iconst (v := 0) hx hb d_Rooms_has_16 (by decide) ?_
    exact W.toX (W.zret (v := 0) (ty := .boolean) hx hb hr (by rfl) (fun t ht hW => ⟨by rw [show f_Rooms_has x a1 = 0 from by unfold f_Rooms_has; rw [if_pos c_1]], ht⟩) (fun q hq => by cases hq) d_Rooms_has_17)
  · refine lv_iload_n hx hb d_Rooms_has_4 rfl (lv_at hl 1 rfl) ?_
    refine lv_aload_n hx hb d_Rooms_has_5 rfl (lv_at hl 0 rfl) ?_
    refine va_get (D := (dC, dI)) (ci := 4) (v := .int (q_rn x)) (C := R_Rooms) (T := F_Rooms) (N := 4) hx hb hbw in_Rooms hown hK hP 1 rfl rfl 3 (by decide) (hbw _ w_37) (fun _ h9 => h9) rfl d_Rooms_has_6 ?_
    refine lv_icmp_ge (tgt := 16) hx hb d_Rooms_has_9 (by decide) (fun c_2 => ?_) (fun c_2 => ?_)
    · refine lv_iconst (v := 0) hx hb d_Rooms_has_16 (by decide) ?_
      exact W.toX (W.zret (v := 0) (ty := .boolean) hx hb hr (by rfl) (fun t ht hW => ⟨by rw [show f_Rooms_has x a1 = 0 from by unfold f_Rooms_has; rw [if_neg c_1, if_pos c_2]], ht⟩) (fun q hq => by cases hq) d_Rooms_has_17)
    · refine lv_iconst (v := 1) hx hb d_Rooms_has_12 (by decide) ?_
      refine lv_goto (tgt := 17) hx hb d_Rooms_has_13 (by decide) ?_
      exact W.toX (W.zret (v := 1) (ty := .boolean) hx hb hr (by rfl) (fun t ht hW => ⟨by rw [show f_Rooms_has x a1 = 1 from by unfold f_Rooms_has; rw [if_neg c_1, if_neg c_2]], ht⟩) (fun q hq => by cases hq) d_Rooms_has_17)
theorem ix_rooms {x : ST} {a : Int32} (hI : CIn x) (h : ¬ f_Rooms_has x a = 0) : vp_in a 40 := by
  unfold f_Rooms_has at h
  by_cases h0 : a < 0
  · exact absurd (if_pos h0) h
  · rw [if_neg h0] at h
    by_cases h1 : q_rn x ≤ a
    · exact absurd (if_pos h1) h
    · exact ix_lt h0 h1 hI.1.2
def f_Rooms_floorOf (x : ST) (a1 : Int32) : Int32 := if (f_Rooms_has x a1) = 0 then (-1) else (q_fl x) a1.toNatClampNeg
set_option maxHeartbeats 4000000 in
set_option maxRecDepth 100000 in
theorem c_Rooms_floorOf (l : Launch) (dC : Nat → ClassId) (dI : Nat → Nat → Nat) (cI cZ : ClassId) (ad : Nat → Nat) (x : ST) (hI : CIn x) (a1 : Int32) : MX l y_Rooms_floorOf (Cond.code y_Rooms_floorOf b_Rooms_floorOf 2 (some .int) :: BW) { frames := 1, cells := 0, slots := 0, locals := 21 } (PC (dC, dI) [(cI, .int), (cZ, .boolean)] (wC cI cZ ad x) [.ref (ad 1), .int a1]) (PQ (some (.int (f_Rooms_floorOf x a1)))) 0 0 (fun _ => False) := by
  refine MX.ofW (cc := b_Rooms_floorOf) (maxL := 2) (ret := (some .int)) (by decide) rfl ?_
  intro p e s m args below meth c s₁ B hml hex hv
  obtain ⟨rfl, hP, hK, hN⟩ := hv
  have hx := B.exec
  have hb := B.bytes
  have hr := B.returns
  have hts := atoms_spec (ws := Cond.code y_Rooms_floorOf b_Rooms_floorOf 2 (some .int) :: BW) B.pre
  have hbw : ∀ w ∈ BW, w.before ([.ref (ad 1), .int a1]).toArray s = true := fun w h => hts w (List.mem_cons_of_mem _ h)
  have hown : s.vm.findClass "PlanRows$Rooms" = some m.cls := findClass_of_methodNamed B.named
  have hlocks := B.notSynchronized
  have hl := lv_entry ([.ref (ad 1), .int a1]) (n := 2) (Nat.le_of_ble_eq_true rfl)
  rw [lg_entry_eq]
  generalize (lg_sl ([.ref (ad 1), .int a1]) ++ List.replicate (2 - (lg_sl ([.ref (ad 1), .int a1])).length) Slot.unset).toArray = ls at hl ⊢
  have hl : lv_has ls 2 [(0, .ref (ad 1)), (1, .int a1)] := hl
  refine lv_aload_n hx hb d_Rooms_floorOf_0 rfl (lv_at hl 0 rfl) ?_
  refine lv_iload_n hx hb d_Rooms_floorOf_1 rfl (lv_at hl 1 rfl) ?_
  refine xv (As := [.int a1]) (rest := []) (C := "PlanRows$Rooms") ⟨hx, hb, hml, hown, hts⟩ (c_Rooms_has l dC dI cI cZ ad x hI a1) (cw_Rooms_25 hts rfl rfl ⟨Nat.le_of_ble_eq_true rfl, Nat.le_of_ble_eq_true rfl⟩) hK hN hP 1 rfl rfl rfl rfl hl.1 rfl (Nat.le_of_ble_eq_true rfl) d_Rooms_floorOf_2 ⟨Nat.zero_le _, Nat.zero_le _⟩ ?_
  refine lv_if_eq (tgt := 17) hx hb d_Rooms_floorOf_5 (by decide) (fun c_1 => ?_) (fun c_1 => ?_)
  · refine lv_iconst (v := (-1)) hx hb d_Rooms_floorOf_17 (by decide) ?_
    exact W.toX (W.iret (v := (-1)) hx hb hr (fun t ht hW => ⟨by rw [show f_Rooms_floorOf x a1 = (-1) from by unfold f_Rooms_floorOf; rw [if_pos c_1]], ht⟩) (fun q hq => by cases hq) d_Rooms_floorOf_18)
  · refine lv_aload_n hx hb d_Rooms_floorOf_8 rfl (lv_at hl 0 rfl) ?_
    refine va_get (D := (dC, dI)) (ci := 4) (v := .ref (ad 9)) (C := R_Rooms) (T := F_Rooms) (N := 4) hx hb hbw in_Rooms hown hK hP 1 rfl rfl 0 (by decide) (hbw _ w_34) (fun _ h9 => h9) rfl d_Rooms_floorOf_9 ?_
    refine lv_iload_n hx hb d_Rooms_floorOf_12 rfl (lv_at hl 1 rfl) ?_
    refine va_iald hx hb hK hP 9 0 rfl rfl (ix_rooms hI c_1) d_Rooms_floorOf_13 ?_
    refine lv_goto (tgt := 18) hx hb d_Rooms_floorOf_14 (by decide) ?_
    exact W.toX (W.iret (v := (q_fl x) a1.toNatClampNeg) hx hb hr (fun t ht hW => ⟨by rw [show f_Rooms_floorOf x a1 = (q_fl x) a1.toNatClampNeg from by unfold f_Rooms_floorOf; rw [if_neg c_1]], ht⟩) (fun q hq => by cases hq) d_Rooms_floorOf_18)
def f_Rooms_isOfKind (x : ST) (a1 a2 : Int32) : Int32 := if (f_Rooms_has x a1) = 0 then 0 else (if ((q_kd x) a1.toNatClampNeg) = a2 then 1 else 0)
set_option maxHeartbeats 4000000 in
set_option maxRecDepth 100000 in
theorem c_Rooms_isOfKind (l : Launch) (dC : Nat → ClassId) (dI : Nat → Nat → Nat) (cI cZ : ClassId) (ad : Nat → Nat) (x : ST) (hI : CIn x) (a1 a2 : Int32) : MX l y_Rooms_isOfKind (Cond.code y_Rooms_isOfKind b_Rooms_isOfKind 3 (some .boolean) :: BW) { frames := 1, cells := 0, slots := 0, locals := 21 } (PC (dC, dI) [(cI, .int), (cZ, .boolean)] (wC cI cZ ad x) [.ref (ad 1), .int a1, .int a2]) (PQ (some (.int (f_Rooms_isOfKind x a1 a2)))) 0 0 (fun _ => False) := by
  refine MX.ofW (cc := b_Rooms_isOfKind) (maxL := 3) (ret := (some .boolean)) (by decide) rfl ?_
  intro p e s m args below meth c s₁ B hml hex hv
  obtain ⟨rfl, hP, hK, hN⟩ := hv
  have hx := B.exec
  have hb := B.bytes
  have hr := B.returns
  have hts := atoms_spec (ws := Cond.code y_Rooms_isOfKind b_Rooms_isOfKind 3 (some .boolean) :: BW) B.pre
  have hbw : ∀ w ∈ BW, w.before ([.ref (ad 1), .int a1, .int a2]).toArray s = true := fun w h => hts w (List.mem_cons_of_mem _ h)
  have hown : s.vm.findClass "PlanRows$Rooms" = some m.cls := findClass_of_methodNamed B.named
  have hlocks := B.notSynchronized
  have hl := lv_entry ([.ref (ad 1), .int a1, .int a2]) (n := 3) (Nat.le_of_ble_eq_true rfl)
  rw [lg_entry_eq]
  generalize (lg_sl ([.ref (ad 1), .int a1, .int a2]) ++ List.replicate (3 - (lg_sl ([.ref (ad 1), .int a1, .int a2])).length) Slot.unset).toArray = ls at hl ⊢
  have hl : lv_has ls 3 [(0, .ref (ad 1)), (1, .int a1), (2, .int a2)] := hl
  refine lv_aload_n hx hb d_Rooms_isOfKind_0 rfl (lv_at hl 0 rfl) ?_
  refine lv_iload_n hx hb d_Rooms_isOfKind_1 rfl (lv_at hl 1 rfl) ?_
  refine xv (As := [.int a1]) (rest := []) (C := "PlanRows$Rooms") ⟨hx, hb, hml, hown, hts⟩ (c_Rooms_has l dC dI cI cZ ad x hI a1) (cw_Rooms_25 hts rfl rfl ⟨Nat.le_of_ble_eq_true rfl, Nat.le_of_ble_eq_true rfl⟩) hK hN hP 1 rfl rfl rfl rfl hl.1 rfl (Nat.le_of_ble_eq_true rfl) d_Rooms_isOfKind_2 ⟨Nat.zero_le _, Nat.zero_le _⟩ ?_
  refine lv_if_eq (tgt := 22) hx hb d_Rooms_isOfKind_5 (by decide) (fun c_1 => ?_) (fun c_1 => ?_)
  · refine lv_iconst (v := 0) hx hb d_Rooms_isOfKind_22 (by decide) ?_
    exact W.toX (W.zret (v := 0) (ty := .boolean) hx hb hr (by rfl) (fun t ht hW => ⟨by rw [show f_Rooms_isOfKind x a1 a2 = 0 from by unfold f_Rooms_isOfKind; rw [if_pos c_1]], ht⟩) (fun q hq => by cases hq) d_Rooms_isOfKind_23)
  · refine lv_aload_n hx hb d_Rooms_isOfKind_8 rfl (lv_at hl 0 rfl) ?_
    refine va_get (D := (dC, dI)) (ci := 4) (v := .ref (ad 10)) (C := R_Rooms) (T := F_Rooms) (N := 4) hx hb hbw in_Rooms hown hK hP 1 rfl rfl 1 (by decide) (hbw _ w_35) (fun _ h9 => h9) rfl d_Rooms_isOfKind_9 ?_
    refine lv_iload_n hx hb d_Rooms_isOfKind_12 rfl (lv_at hl 1 rfl) ?_
    refine va_iald hx hb hK hP 10 0 rfl rfl (ix_rooms hI c_1) d_Rooms_isOfKind_13 ?_
    refine lv_iload_n hx hb d_Rooms_isOfKind_14 rfl (lv_at hl 2 rfl) ?_
    refine lv_icmp_ne (tgt := 22) hx hb d_Rooms_isOfKind_15 (by decide) (fun c_2 => ?_) (fun c_2 => ?_)
    · refine lv_iconst (v := 0) hx hb d_Rooms_isOfKind_22 (by decide) ?_
      exact W.toX (W.zret (v := 0) (ty := .boolean) hx hb hr (by rfl) (fun t ht hW => ⟨by rw [show f_Rooms_isOfKind x a1 a2 = 0 from by unfold f_Rooms_isOfKind; rw [if_neg c_1, if_neg c_2]], ht⟩) (fun q hq => by cases hq) d_Rooms_isOfKind_23)
    · refine lv_iconst (v := 1) hx hb d_Rooms_isOfKind_18 (by decide) ?_
      refine lv_goto (tgt := 23) hx hb d_Rooms_isOfKind_19 (by decide) ?_
      exact W.toX (W.zret (v := 1) (ty := .boolean) hx hb hr (by rfl) (fun t ht hW => ⟨by rw [show f_Rooms_isOfKind x a1 a2 = 1 from by unfold f_Rooms_isOfKind; rw [if_neg c_1, if_pos c_2]], ht⟩) (fun q hq => by cases hq) d_Rooms_isOfKind_23)
def f_Rooms_hasHazardOf (x : ST) (a1 a2 : Int32) : Int32 := if (f_Rooms_has x a1) = 0 then 0 else (if (((q_hz x) a1.toNatClampNeg) &&& a2) = 0 then 0 else 1)
set_option maxHeartbeats 4000000 in
set_option maxRecDepth 100000 in
theorem c_Rooms_hasHazardOf (l : Launch) (dC : Nat → ClassId) (dI : Nat → Nat → Nat) (cI cZ : ClassId) (ad : Nat → Nat) (x : ST) (hI : CIn x) (a1 a2 : Int32) : MX l y_Rooms_hasHazardOf (Cond.code y_Rooms_hasHazardOf b_Rooms_hasHazardOf 3 (some .boolean) :: BW) { frames := 1, cells := 0, slots := 0, locals := 21 } (PC (dC, dI) [(cI, .int), (cZ, .boolean)] (wC cI cZ ad x) [.ref (ad 1), .int a1, .int a2]) (PQ (some (.int (f_Rooms_hasHazardOf x a1 a2)))) 0 0 (fun _ => False) := by
  refine MX.ofW (cc := b_Rooms_hasHazardOf) (maxL := 3) (ret := (some .boolean)) (by decide) rfl ?_
  intro p e s m args below meth c s₁ B hml hex hv
  obtain ⟨rfl, hP, hK, hN⟩ := hv
  have hx := B.exec
  have hb := B.bytes
  have hr := B.returns
  have hts := atoms_spec (ws := Cond.code y_Rooms_hasHazardOf b_Rooms_hasHazardOf 3 (some .boolean) :: BW) B.pre
  have hbw : ∀ w ∈ BW, w.before ([.ref (ad 1), .int a1, .int a2]).toArray s = true := fun w h => hts w (List.mem_cons_of_mem _ h)
  have hown : s.vm.findClass "PlanRows$Rooms" = some m.cls := findClass_of_methodNamed B.named
  have hlocks := B.notSynchronized
  have hl := lv_entry ([.ref (ad 1), .int a1, .int a2]) (n := 3) (Nat.le_of_ble_eq_true rfl)
  rw [lg_entry_eq]
  generalize (lg_sl ([.ref (ad 1), .int a1, .int a2]) ++ List.replicate (3 - (lg_sl ([.ref (ad 1), .int a1, .int a2])).length) Slot.unset).toArray = ls at hl ⊢
  have hl : lv_has ls 3 [(0, .ref (ad 1)), (1, .int a1), (2, .int a2)] := hl
  refine lv_aload_n hx hb d_Rooms_hasHazardOf_0 rfl (lv_at hl 0 rfl) ?_
  refine lv_iload_n hx hb d_Rooms_hasHazardOf_1 rfl (lv_at hl 1 rfl) ?_
  refine xv (As := [.int a1]) (rest := []) (C := "PlanRows$Rooms") ⟨hx, hb, hml, hown, hts⟩ (c_Rooms_has l dC dI cI cZ ad x hI a1) (cw_Rooms_25 hts rfl rfl ⟨Nat.le_of_ble_eq_true rfl, Nat.le_of_ble_eq_true rfl⟩) hK hN hP 1 rfl rfl rfl rfl hl.1 rfl (Nat.le_of_ble_eq_true rfl) d_Rooms_hasHazardOf_2 ⟨Nat.zero_le _, Nat.zero_le _⟩ ?_
  refine lv_if_eq (tgt := 23) hx hb d_Rooms_hasHazardOf_5 (by decide) (fun c_1 => ?_) (fun c_1 => ?_)
  · refine lv_iconst (v := 0) hx hb d_Rooms_hasHazardOf_23 (by decide) ?_
    exact W.toX (W.zret (v := 0) (ty := .boolean) hx hb hr (by rfl) (fun t ht hW => ⟨by rw [show f_Rooms_hasHazardOf x a1 a2 = 0 from by unfold f_Rooms_hasHazardOf; rw [if_pos c_1]], ht⟩) (fun q hq => by cases hq) d_Rooms_hasHazardOf_24)
  · refine lv_aload_n hx hb d_Rooms_hasHazardOf_8 rfl (lv_at hl 0 rfl) ?_
    refine va_get (D := (dC, dI)) (ci := 4) (v := .ref (ad 11)) (C := R_Rooms) (T := F_Rooms) (N := 4) hx hb hbw in_Rooms hown hK hP 1 rfl rfl 2 (by decide) (hbw _ w_36) (fun _ h9 => h9) rfl d_Rooms_hasHazardOf_9 ?_
    refine lv_iload_n hx hb d_Rooms_hasHazardOf_12 rfl (lv_at hl 1 rfl) ?_
    refine va_iald hx hb hK hP 11 0 rfl rfl (ix_rooms hI c_1) d_Rooms_hasHazardOf_13 ?_
    refine lv_iload_n hx hb d_Rooms_hasHazardOf_14 rfl (lv_at hl 2 rfl) ?_
    refine lv_iand hx hb d_Rooms_hasHazardOf_15 ?_
    refine lv_if_eq (tgt := 23) hx hb d_Rooms_hasHazardOf_16 (by decide) (fun c_2 => ?_) (fun c_2 => ?_)
    · refine lv_iconst (v := 0) hx hb d_Rooms_hasHazardOf_23 (by decide) ?_
      exact W.toX (W.zret (v := 0) (ty := .boolean) hx hb hr (by rfl) (fun t ht hW => ⟨by rw [show f_Rooms_hasHazardOf x a1 a2 = 0 from by unfold f_Rooms_hasHazardOf; rw [if_neg c_1, if_pos c_2]], ht⟩) (fun q hq => by cases hq) d_Rooms_hasHazardOf_24)
    · refine lv_iconst (v := 1) hx hb d_Rooms_hasHazardOf_19 (by decide) ?_
      refine lv_goto (tgt := 24) hx hb d_Rooms_hasHazardOf_20 (by decide) ?_
      exact W.toX (W.zret (v := 1) (ty := .boolean) hx hb hr (by rfl) (fun t ht hW => ⟨by rw [show f_Rooms_hasHazardOf x a1 a2 = 1 from by unfold f_Rooms_hasHazardOf; rw [if_neg c_1, if_neg c_2]], ht⟩) (fun q hq => by cases hq) d_Rooms_hasHazardOf_24)
def f_Doors_has (x : ST) (a1 : Int32) : Int32 := if a1 < 0 then 0 else (if (q_dn x) ≤ a1 then 0 else 1)
set_option maxHeartbeats 4000000 in
set_option maxRecDepth 100000 in
theorem c_Doors_has (l : Launch) (dC : Nat → ClassId) (dI : Nat → Nat → Nat) (cI cZ : ClassId) (ad : Nat → Nat) (x : ST) (hI : CIn x) (a1 : Int32) : MX l y_Doors_has (Cond.code y_Doors_has b_Doors_has 2 (some .boolean) :: BW) { frames := 0, cells := 0, slots := 0, locals := 0 } (PC (dC, dI) [(cI, .int), (cZ, .boolean)] (wC cI cZ ad x) [.ref (ad 2), .int a1]) (PQ (some (.int (f_Doors_has x a1)))) 0 0 (fun _ => False) := by
  refine MX.ofW (cc := b_Doors_has) (maxL := 2) (ret := (some .boolean)) (by decide) rfl ?_
  intro p e s m args below meth c s₁ B hml hex hv
  obtain ⟨rfl, hP, hK, hN⟩ := hv
  have hx := B.exec
  have hb := B.bytes
  have hr := B.returns
  have hts := atoms_spec (ws := Cond.code y_Doors_has b_Doors_has 2 (some .boolean) :: BW) B.pre
  have hbw : ∀ w ∈ BW, w.before ([.ref (ad 2), .int a1]).toArray s = true := fun w h => hts w (List.mem_cons_of_mem _ h)
  have hown : s.vm.findClass "PlanRows$Doors" = some m.cls := findClass_of_methodNamed B.named
  have hlocks := B.notSynchronized
  have hl := lv_entry ([.ref (ad 2), .int a1]) (n := 2) (Nat.le_of_ble_eq_true rfl)
  rw [lg_entry_eq]
  generalize (lg_sl ([.ref (ad 2), .int a1]) ++ List.replicate (2 - (lg_sl ([.ref (ad 2), .int a1])).length) Slot.unset).toArray = ls at hl ⊢
  have hl : lv_has ls 2 [(0, .ref (ad 2)), (1, .int a1)] := hl
  refine lv_iload_n hx hb d_Doors_has_0 rfl (lv_at hl 1 rfl) ?_
  refine lv_if_lt (tgt := 16) hx hb d_Doors_has_1 (by decide) (fun c_1 => ?_) (fun c_1 => ?_)
  · refine lv_iconst (v := 0) hx hb d_Doors_has_16 (by decide) ?_
    exact W.toX (W.zret (v := 0) (ty := .boolean) hx hb hr (by rfl) (fun t ht hW => ⟨by rw [show f_Doors_has x a1 = 0 from by unfold f_Doors_has; rw [if_pos c_1]], ht⟩) (fun q hq => by cases hq) d_Doors_has_17)
  · refine lv_iload_n hx hb d_Doors_has_4 rfl (lv_at hl 1 rfl) ?_
    refine lv_aload_n hx hb d_Doors_has_5 rfl (lv_at hl 0 rfl) ?_
    refine va_get (D := (dC, dI)) (ci := 2) (v := .int (q_dn x)) (C := R_Doors) (T := F_Doors) (N := 5) hx hb hbw in_Doors hown hK hP 2 rfl rfl 4 (by decide) (hbw _ w_60) (fun _ h9 => h9) rfl d_Doors_has_6 ?_
    refine lv_icmp_ge (tgt := 16) hx hb d_Doors_has_9 (by decide) (fun c_2 => ?_) (fun c_2 => ?_)
    · refine lv_iconst (v := 0) hx hb d_Doors_has_16 (by decide) ?_
      exact W.toX (W.zret (v := 0) (ty := .boolean) hx hb hr (by rfl) (fun t ht hW => ⟨by rw [show f_Doors_has x a1 = 0 from by unfold f_Doors_has; rw [if_neg c_1, if_pos c_2]], ht⟩) (fun q hq => by cases hq) d_Doors_has_17)
    · refine lv_iconst (v := 1) hx hb d_Doors_has_12 (by decide) ?_
      refine lv_goto (tgt := 17) hx hb d_Doors_has_13 (by decide) ?_
      exact W.toX (W.zret (v := 1) (ty := .boolean) hx hb hr (by rfl) (fun t ht hW => ⟨by rw [show f_Doors_has x a1 = 1 from by unfold f_Doors_has; rw [if_neg c_1, if_neg c_2]], ht⟩) (fun q hq => by cases hq) d_Doors_has_17)
theorem ix_doors {x : ST} {a : Int32} (hI : CIn x) (h : ¬ f_Doors_has x a = 0) : vp_in a 80 := by
  unfold f_Doors_has at h
  by_cases h0 : a < 0
  · exact absurd (if_pos h0) h
  · rw [if_neg h0] at h
    by_cases h1 : q_dn x ≤ a
    · exact absurd (if_pos h1) h
    · exact ix_lt h0 h1 hI.2.1.2
def f_Doors_firstRoomOf (x : ST) (a1 : Int32) : Int32 := if (f_Doors_has x a1) = 0 then (-1) else (q_da x) a1.toNatClampNeg
set_option maxHeartbeats 4000000 in
set_option maxRecDepth 100000 in
theorem c_Doors_firstRoomOf (l : Launch) (dC : Nat → ClassId) (dI : Nat → Nat → Nat) (cI cZ : ClassId) (ad : Nat → Nat) (x : ST) (hI : CIn x) (a1 : Int32) : MX l y_Doors_firstRoomOf (Cond.code y_Doors_firstRoomOf b_Doors_firstRoomOf 2 (some .int) :: BW) { frames := 1, cells := 0, slots := 0, locals := 21 } (PC (dC, dI) [(cI, .int), (cZ, .boolean)] (wC cI cZ ad x) [.ref (ad 2), .int a1]) (PQ (some (.int (f_Doors_firstRoomOf x a1)))) 0 0 (fun _ => False) := by
  refine MX.ofW (cc := b_Doors_firstRoomOf) (maxL := 2) (ret := (some .int)) (by decide) rfl ?_
  intro p e s m args below meth c s₁ B hml hex hv
  obtain ⟨rfl, hP, hK, hN⟩ := hv
  have hx := B.exec
  have hb := B.bytes
  have hr := B.returns
  have hts := atoms_spec (ws := Cond.code y_Doors_firstRoomOf b_Doors_firstRoomOf 2 (some .int) :: BW) B.pre
  have hbw : ∀ w ∈ BW, w.before ([.ref (ad 2), .int a1]).toArray s = true := fun w h => hts w (List.mem_cons_of_mem _ h)
  have hown : s.vm.findClass "PlanRows$Doors" = some m.cls := findClass_of_methodNamed B.named
  have hlocks := B.notSynchronized
  have hl := lv_entry ([.ref (ad 2), .int a1]) (n := 2) (Nat.le_of_ble_eq_true rfl)
  rw [lg_entry_eq]
  generalize (lg_sl ([.ref (ad 2), .int a1]) ++ List.replicate (2 - (lg_sl ([.ref (ad 2), .int a1])).length) Slot.unset).toArray = ls at hl ⊢
  have hl : lv_has ls 2 [(0, .ref (ad 2)), (1, .int a1)] := hl
  refine lv_aload_n hx hb d_Doors_firstRoomOf_0 rfl (lv_at hl 0 rfl) ?_
  refine lv_iload_n hx hb d_Doors_firstRoomOf_1 rfl (lv_at hl 1 rfl) ?_
  refine xv (As := [.int a1]) (rest := []) (C := "PlanRows$Doors") ⟨hx, hb, hml, hown, hts⟩ (c_Doors_has l dC dI cI cZ ad x hI a1) (cw_Doors_28 hts rfl rfl ⟨Nat.le_of_ble_eq_true rfl, Nat.le_of_ble_eq_true rfl⟩) hK hN hP 2 rfl rfl rfl rfl hl.1 rfl (Nat.le_of_ble_eq_true rfl) d_Doors_firstRoomOf_2 ⟨Nat.zero_le _, Nat.zero_le _⟩ ?_
  refine lv_if_eq (tgt := 17) hx hb d_Doors_firstRoomOf_5 (by decide) (fun c_1 => ?_) (fun c_1 => ?_)
  · refine lv_iconst (v := (-1)) hx hb d_Doors_firstRoomOf_17 (by decide) ?_
    exact W.toX (W.iret (v := (-1)) hx hb hr (fun t ht hW => ⟨by rw [show f_Doors_firstRoomOf x a1 = (-1) from by unfold f_Doors_firstRoomOf; rw [if_pos c_1]], ht⟩) (fun q hq => by cases hq) d_Doors_firstRoomOf_18)
  · refine lv_aload_n hx hb d_Doors_firstRoomOf_8 rfl (lv_at hl 0 rfl) ?_
    refine va_get (D := (dC, dI)) (ci := 2) (v := .ref (ad 12)) (C := R_Doors) (T := F_Doors) (N := 5) hx hb hbw in_Doors hown hK hP 2 rfl rfl 0 (by decide) (hbw _ w_56) (fun _ h9 => h9) rfl d_Doors_firstRoomOf_9 ?_
    refine lv_iload_n hx hb d_Doors_firstRoomOf_12 rfl (lv_at hl 1 rfl) ?_
    refine va_iald hx hb hK hP 12 0 rfl rfl (ix_doors hI c_1) d_Doors_firstRoomOf_13 ?_
    refine lv_goto (tgt := 18) hx hb d_Doors_firstRoomOf_14 (by decide) ?_
    exact W.toX (W.iret (v := (q_da x) a1.toNatClampNeg) hx hb hr (fun t ht hW => ⟨by rw [show f_Doors_firstRoomOf x a1 = (q_da x) a1.toNatClampNeg from by unfold f_Doors_firstRoomOf; rw [if_neg c_1]], ht⟩) (fun q hq => by cases hq) d_Doors_firstRoomOf_18)
def f_Doors_secondRoomOf (x : ST) (a1 : Int32) : Int32 := if (f_Doors_has x a1) = 0 then (-1) else (q_db x) a1.toNatClampNeg
set_option maxHeartbeats 4000000 in
set_option maxRecDepth 100000 in
theorem c_Doors_secondRoomOf (l : Launch) (dC : Nat → ClassId) (dI : Nat → Nat → Nat) (cI cZ : ClassId) (ad : Nat → Nat) (x : ST) (hI : CIn x) (a1 : Int32) : MX l y_Doors_secondRoomOf (Cond.code y_Doors_secondRoomOf b_Doors_secondRoomOf 2 (some .int) :: BW) { frames := 1, cells := 0, slots := 0, locals := 21 } (PC (dC, dI) [(cI, .int), (cZ, .boolean)] (wC cI cZ ad x) [.ref (ad 2), .int a1]) (PQ (some (.int (f_Doors_secondRoomOf x a1)))) 0 0 (fun _ => False) := by
  refine MX.ofW (cc := b_Doors_secondRoomOf) (maxL := 2) (ret := (some .int)) (by decide) rfl ?_
  intro p e s m args below meth c s₁ B hml hex hv
  obtain ⟨rfl, hP, hK, hN⟩ := hv
  have hx := B.exec
  have hb := B.bytes
  have hr := B.returns
  have hts := atoms_spec (ws := Cond.code y_Doors_secondRoomOf b_Doors_secondRoomOf 2 (some .int) :: BW) B.pre
  have hbw : ∀ w ∈ BW, w.before ([.ref (ad 2), .int a1]).toArray s = true := fun w h => hts w (List.mem_cons_of_mem _ h)
  have hown : s.vm.findClass "PlanRows$Doors" = some m.cls := findClass_of_methodNamed B.named
  have hlocks := B.notSynchronized
  have hl := lv_entry ([.ref (ad 2), .int a1]) (n := 2) (Nat.le_of_ble_eq_true rfl)
  rw [lg_entry_eq]
  generalize (lg_sl ([.ref (ad 2), .int a1]) ++ List.replicate (2 - (lg_sl ([.ref (ad 2), .int a1])).length) Slot.unset).toArray = ls at hl ⊢
  have hl : lv_has ls 2 [(0, .ref (ad 2)), (1, .int a1)] := hl
  refine lv_aload_n hx hb d_Doors_secondRoomOf_0 rfl (lv_at hl 0 rfl) ?_
  refine lv_iload_n hx hb d_Doors_secondRoomOf_1 rfl (lv_at hl 1 rfl) ?_
  refine xv (As := [.int a1]) (rest := []) (C := "PlanRows$Doors") ⟨hx, hb, hml, hown, hts⟩ (c_Doors_has l dC dI cI cZ ad x hI a1) (cw_Doors_28 hts rfl rfl ⟨Nat.le_of_ble_eq_true rfl, Nat.le_of_ble_eq_true rfl⟩) hK hN hP 2 rfl rfl rfl rfl hl.1 rfl (Nat.le_of_ble_eq_true rfl) d_Doors_secondRoomOf_2 ⟨Nat.zero_le _, Nat.zero_le _⟩ ?_
  refine lv_if_eq (tgt := 17) hx hb d_Doors_secondRoomOf_5 (by decide) (fun c_1 => ?_) (fun c_1 => ?_)
  · refine lv_iconst (v := (-1)) hx hb d_Doors_secondRoomOf_17 (by decide) ?_
    exact W.toX (W.iret (v := (-1)) hx hb hr (fun t ht hW => ⟨by rw [show f_Doors_secondRoomOf x a1 = (-1) from by unfold f_Doors_secondRoomOf; rw [if_pos c_1]], ht⟩) (fun q hq => by cases hq) d_Doors_secondRoomOf_18)
  · refine lv_aload_n hx hb d_Doors_secondRoomOf_8 rfl (lv_at hl 0 rfl) ?_
    refine va_get (D := (dC, dI)) (ci := 2) (v := .ref (ad 13)) (C := R_Doors) (T := F_Doors) (N := 5) hx hb hbw in_Doors hown hK hP 2 rfl rfl 1 (by decide) (hbw _ w_57) (fun _ h9 => h9) rfl d_Doors_secondRoomOf_9 ?_
    refine lv_iload_n hx hb d_Doors_secondRoomOf_12 rfl (lv_at hl 1 rfl) ?_
    refine va_iald hx hb hK hP 13 0 rfl rfl (ix_doors hI c_1) d_Doors_secondRoomOf_13 ?_
    refine lv_goto (tgt := 18) hx hb d_Doors_secondRoomOf_14 (by decide) ?_
    exact W.toX (W.iret (v := (q_db x) a1.toNatClampNeg) hx hb hr (fun t ht hW => ⟨by rw [show f_Doors_secondRoomOf x a1 = (q_db x) a1.toNatClampNeg from by unfold f_Doors_secondRoomOf; rw [if_neg c_1]], ht⟩) (fun q hq => by cases hq) d_Doors_secondRoomOf_18)
def f_Doors_costOf (x : ST) (a1 : Int32) : Int32 := if (f_Doors_has x a1) = 0 then 0 else (q_dc x) a1.toNatClampNeg
set_option maxHeartbeats 4000000 in
set_option maxRecDepth 100000 in
theorem c_Doors_costOf (l : Launch) (dC : Nat → ClassId) (dI : Nat → Nat → Nat) (cI cZ : ClassId) (ad : Nat → Nat) (x : ST) (hI : CIn x) (a1 : Int32) : MX l y_Doors_costOf (Cond.code y_Doors_costOf b_Doors_costOf 2 (some .int) :: BW) { frames := 1, cells := 0, slots := 0, locals := 21 } (PC (dC, dI) [(cI, .int), (cZ, .boolean)] (wC cI cZ ad x) [.ref (ad 2), .int a1]) (PQ (some (.int (f_Doors_costOf x a1)))) 0 0 (fun _ => False) := by
  refine MX.ofW (cc := b_Doors_costOf) (maxL := 2) (ret := (some .int)) (by decide) rfl ?_
  intro p e s m args below meth c s₁ B hml hex hv
  obtain ⟨rfl, hP, hK, hN⟩ := hv
  have hx := B.exec
  have hb := B.bytes
  have hr := B.returns
  have hts := atoms_spec (ws := Cond.code y_Doors_costOf b_Doors_costOf 2 (some .int) :: BW) B.pre
  have hbw : ∀ w ∈ BW, w.before ([.ref (ad 2), .int a1]).toArray s = true := fun w h => hts w (List.mem_cons_of_mem _ h)
  have hown : s.vm.findClass "PlanRows$Doors" = some m.cls := findClass_of_methodNamed B.named
  have hlocks := B.notSynchronized
  have hl := lv_entry ([.ref (ad 2), .int a1]) (n := 2) (Nat.le_of_ble_eq_true rfl)
  rw [lg_entry_eq]
  generalize (lg_sl ([.ref (ad 2), .int a1]) ++ List.replicate (2 - (lg_sl ([.ref (ad 2), .int a1])).length) Slot.unset).toArray = ls at hl ⊢
  have hl : lv_has ls 2 [(0, .ref (ad 2)), (1, .int a1)] := hl
  refine lv_aload_n hx hb d_Doors_costOf_0 rfl (lv_at hl 0 rfl) ?_
  refine lv_iload_n hx hb d_Doors_costOf_1 rfl (lv_at hl 1 rfl) ?_
  refine xv (As := [.int a1]) (rest := []) (C := "PlanRows$Doors") ⟨hx, hb, hml, hown, hts⟩ (c_Doors_has l dC dI cI cZ ad x hI a1) (cw_Doors_28 hts rfl rfl ⟨Nat.le_of_ble_eq_true rfl, Nat.le_of_ble_eq_true rfl⟩) hK hN hP 2 rfl rfl rfl rfl hl.1 rfl (Nat.le_of_ble_eq_true rfl) d_Doors_costOf_2 ⟨Nat.zero_le _, Nat.zero_le _⟩ ?_
  refine lv_if_eq (tgt := 17) hx hb d_Doors_costOf_5 (by decide) (fun c_1 => ?_) (fun c_1 => ?_)
  · refine lv_iconst (v := 0) hx hb d_Doors_costOf_17 (by decide) ?_
    exact W.toX (W.iret (v := 0) hx hb hr (fun t ht hW => ⟨by rw [show f_Doors_costOf x a1 = 0 from by unfold f_Doors_costOf; rw [if_pos c_1]], ht⟩) (fun q hq => by cases hq) d_Doors_costOf_18)
  · refine lv_aload_n hx hb d_Doors_costOf_8 rfl (lv_at hl 0 rfl) ?_
    refine va_get (D := (dC, dI)) (ci := 2) (v := .ref (ad 14)) (C := R_Doors) (T := F_Doors) (N := 5) hx hb hbw in_Doors hown hK hP 2 rfl rfl 2 (by decide) (hbw _ w_58) (fun _ h9 => h9) rfl d_Doors_costOf_9 ?_
    refine lv_iload_n hx hb d_Doors_costOf_12 rfl (lv_at hl 1 rfl) ?_
    refine va_iald hx hb hK hP 14 0 rfl rfl (ix_doors hI c_1) d_Doors_costOf_13 ?_
    refine lv_goto (tgt := 18) hx hb d_Doors_costOf_14 (by decide) ?_
    exact W.toX (W.iret (v := (q_dc x) a1.toNatClampNeg) hx hb hr (fun t ht hW => ⟨by rw [show f_Doors_costOf x a1 = (q_dc x) a1.toNatClampNeg from by unfold f_Doors_costOf; rw [if_neg c_1]], ht⟩) (fun q hq => by cases hq) d_Doors_costOf_18)
def f_Doors_keyOf (x : ST) (a1 : Int32) : Int32 := if (f_Doors_has x a1) = 0 then 0 else (q_dk x) a1.toNatClampNeg
set_option maxHeartbeats 4000000 in
set_option maxRecDepth 100000 in
theorem c_Doors_keyOf (l : Launch) (dC : Nat → ClassId) (dI : Nat → Nat → Nat) (cI cZ : ClassId) (ad : Nat → Nat) (x : ST) (hI : CIn x) (a1 : Int32) : MX l y_Doors_keyOf (Cond.code y_Doors_keyOf b_Doors_keyOf 2 (some .int) :: BW) { frames := 1, cells := 0, slots := 0, locals := 21 } (PC (dC, dI) [(cI, .int), (cZ, .boolean)] (wC cI cZ ad x) [.ref (ad 2), .int a1]) (PQ (some (.int (f_Doors_keyOf x a1)))) 0 0 (fun _ => False) := by
  refine MX.ofW (cc := b_Doors_keyOf) (maxL := 2) (ret := (some .int)) (by decide) rfl ?_
  intro p e s m args below meth c s₁ B hml hex hv
  obtain ⟨rfl, hP, hK, hN⟩ := hv
  have hx := B.exec
  have hb := B.bytes
  have hr := B.returns
  have hts := atoms_spec (ws := Cond.code y_Doors_keyOf b_Doors_keyOf 2 (some .int) :: BW) B.pre
  have hbw : ∀ w ∈ BW, w.before ([.ref (ad 2), .int a1]).toArray s = true := fun w h => hts w (List.mem_cons_of_mem _ h)
  have hown : s.vm.findClass "PlanRows$Doors" = some m.cls := findClass_of_methodNamed B.named
  have hlocks := B.notSynchronized
  have hl := lv_entry ([.ref (ad 2), .int a1]) (n := 2) (Nat.le_of_ble_eq_true rfl)
  rw [lg_entry_eq]
  generalize (lg_sl ([.ref (ad 2), .int a1]) ++ List.replicate (2 - (lg_sl ([.ref (ad 2), .int a1])).length) Slot.unset).toArray = ls at hl ⊢
  have hl : lv_has ls 2 [(0, .ref (ad 2)), (1, .int a1)] := hl
  refine lv_aload_n hx hb d_Doors_keyOf_0 rfl (lv_at hl 0 rfl) ?_
  refine lv_iload_n hx hb d_Doors_keyOf_1 rfl (lv_at hl 1 rfl) ?_
  refine xv (As := [.int a1]) (rest := []) (C := "PlanRows$Doors") ⟨hx, hb, hml, hown, hts⟩ (c_Doors_has l dC dI cI cZ ad x hI a1) (cw_Doors_28 hts rfl rfl ⟨Nat.le_of_ble_eq_true rfl, Nat.le_of_ble_eq_true rfl⟩) hK hN hP 2 rfl rfl rfl rfl hl.1 rfl (Nat.le_of_ble_eq_true rfl) d_Doors_keyOf_2 ⟨Nat.zero_le _, Nat.zero_le _⟩ ?_
  refine lv_if_eq (tgt := 17) hx hb d_Doors_keyOf_5 (by decide) (fun c_1 => ?_) (fun c_1 => ?_)
  · refine lv_iconst (v := 0) hx hb d_Doors_keyOf_17 (by decide) ?_
    exact W.toX (W.iret (v := 0) hx hb hr (fun t ht hW => ⟨by rw [show f_Doors_keyOf x a1 = 0 from by unfold f_Doors_keyOf; rw [if_pos c_1]], ht⟩) (fun q hq => by cases hq) d_Doors_keyOf_18)
  · refine lv_aload_n hx hb d_Doors_keyOf_8 rfl (lv_at hl 0 rfl) ?_
    refine va_get (D := (dC, dI)) (ci := 2) (v := .ref (ad 15)) (C := R_Doors) (T := F_Doors) (N := 5) hx hb hbw in_Doors hown hK hP 2 rfl rfl 3 (by decide) (hbw _ w_59) (fun _ h9 => h9) rfl d_Doors_keyOf_9 ?_
    refine lv_iload_n hx hb d_Doors_keyOf_12 rfl (lv_at hl 1 rfl) ?_
    refine va_iald hx hb hK hP 15 0 rfl rfl (ix_doors hI c_1) d_Doors_keyOf_13 ?_
    refine lv_goto (tgt := 18) hx hb d_Doors_keyOf_14 (by decide) ?_
    exact W.toX (W.iret (v := (q_dk x) a1.toNatClampNeg) hx hb hr (fun t ht hW => ⟨by rw [show f_Doors_keyOf x a1 = (q_dk x) a1.toNatClampNeg from by unfold f_Doors_keyOf; rw [if_neg c_1]], ht⟩) (fun q hq => by cases hq) d_Doors_keyOf_18)
def f_Doors_roomBehind (x : ST) (a1 a2 : Int32) : Int32 := if (f_Doors_firstRoomOf x a1) = a2 then f_Doors_secondRoomOf x a1 else (if (f_Doors_secondRoomOf x a1) = a2 then f_Doors_firstRoomOf x a1 else (-1))
set_option maxHeartbeats 4000000 in
set_option maxRecDepth 100000 in
theorem c_Doors_roomBehind (l : Launch) (dC : Nat → ClassId) (dI : Nat → Nat → Nat) (cI cZ : ClassId) (ad : Nat → Nat) (x : ST) (hI : CIn x) (a1 a2 : Int32) : MX l y_Doors_roomBehind (Cond.code y_Doors_roomBehind b_Doors_roomBehind 3 (some .int) :: BW) { frames := 2, cells := 0, slots := 0, locals := 42 } (PC (dC, dI) [(cI, .int), (cZ, .boolean)] (wC cI cZ ad x) [.ref (ad 2), .int a1, .int a2]) (PQ (some (.int (f_Doors_roomBehind x a1 a2)))) 0 0 (fun _ => False) := by
  refine MX.ofW (cc := b_Doors_roomBehind) (maxL := 3) (ret := (some .int)) (by decide) rfl ?_
  intro p e s m args below meth c s₁ B hml hex hv
  obtain ⟨rfl, hP, hK, hN⟩ := hv
  have hx := B.exec
  have hb := B.bytes
  have hr := B.returns
  have hts := atoms_spec (ws := Cond.code y_Doors_roomBehind b_Doors_roomBehind 3 (some .int) :: BW) B.pre
  have hbw : ∀ w ∈ BW, w.before ([.ref (ad 2), .int a1, .int a2]).toArray s = true := fun w h => hts w (List.mem_cons_of_mem _ h)
  have hown : s.vm.findClass "PlanRows$Doors" = some m.cls := findClass_of_methodNamed B.named
  have hlocks := B.notSynchronized
  have hl := lv_entry ([.ref (ad 2), .int a1, .int a2]) (n := 3) (Nat.le_of_ble_eq_true rfl)
  rw [lg_entry_eq]
  generalize (lg_sl ([.ref (ad 2), .int a1, .int a2]) ++ List.replicate (3 - (lg_sl ([.ref (ad 2), .int a1, .int a2])).length) Slot.unset).toArray = ls at hl ⊢
  have hl : lv_has ls 3 [(0, .ref (ad 2)), (1, .int a1), (2, .int a2)] := hl
  refine lv_aload_n hx hb d_Doors_roomBehind_0 rfl (lv_at hl 0 rfl) ?_
  refine lv_iload_n hx hb d_Doors_roomBehind_1 rfl (lv_at hl 1 rfl) ?_
  refine xv (As := [.int a1]) (rest := []) (C := "PlanRows$Doors") ⟨hx, hb, hml, hown, hts⟩ (c_Doors_firstRoomOf l dC dI cI cZ ad x hI a1) (cw_Doors_32 hts rfl rfl ⟨Nat.le_of_ble_eq_true rfl, Nat.le_of_ble_eq_true rfl⟩) hK hN hP 2 rfl rfl rfl rfl hl.1 rfl (Nat.le_of_ble_eq_true rfl) d_Doors_roomBehind_2 ⟨Nat.zero_le _, Nat.zero_le _⟩ ?_
  refine lv_iload_n hx hb d_Doors_roomBehind_5 rfl (lv_at hl 2 rfl) ?_
  refine lv_icmp_ne (tgt := 15) hx hb d_Doors_roomBehind_6 (by decide) (fun c_1 => ?_) (fun c_1 => ?_)
  · refine lv_aload_n hx hb d_Doors_roomBehind_15 rfl (lv_at hl 0 rfl) ?_
    refine lv_iload_n hx hb d_Doors_roomBehind_16 rfl (lv_at hl 1 rfl) ?_
    refine xv (As := [.int a1]) (rest := []) (C := "PlanRows$Doors") ⟨hx, hb, hml, hown, hts⟩ (c_Doors_secondRoomOf l dC dI cI cZ ad x hI a1) (cw_Doors_36 hts rfl rfl ⟨Nat.le_of_ble_eq_true rfl, Nat.le_of_ble_eq_true rfl⟩) hK hN hP 2 rfl rfl rfl rfl hl.1 rfl (Nat.le_of_ble_eq_true rfl) d_Doors_roomBehind_17 ⟨Nat.zero_le _, Nat.zero_le _⟩ ?_
    refine lv_iload_n hx hb d_Doors_roomBehind_20 rfl (lv_at hl 2 rfl) ?_
    refine lv_icmp_ne (tgt := 32) hx hb d_Doors_roomBehind_21 (by decide) (fun c_2 => ?_) (fun c_2 => ?_)
    · refine lv_iconst (v := (-1)) hx hb d_Doors_roomBehind_32 (by decide) ?_
      exact W.toX (W.iret (v := (-1)) hx hb hr (fun t ht hW => ⟨by rw [show f_Doors_roomBehind x a1 a2 = (-1) from by unfold f_Doors_roomBehind; rw [if_neg c_1, if_neg c_2]], ht⟩) (fun q hq => by cases hq) d_Doors_roomBehind_33)
    · refine lv_aload_n hx hb d_Doors_roomBehind_24 rfl (lv_at hl 0 rfl) ?_
      refine lv_iload_n hx hb d_Doors_roomBehind_25 rfl (lv_at hl 1 rfl) ?_
      refine xv (As := [.int a1]) (rest := []) (C := "PlanRows$Doors") ⟨hx, hb, hml, hown, hts⟩ (c_Doors_firstRoomOf l dC dI cI cZ ad x hI a1) (cw_Doors_32 hts rfl rfl ⟨Nat.le_of_ble_eq_true rfl, Nat.le_of_ble_eq_true rfl⟩) hK hN hP 2 rfl rfl rfl rfl hl.1 rfl (Nat.le_of_ble_eq_true rfl) d_Doors_roomBehind_26 ⟨Nat.zero_le _, Nat.zero_le _⟩ ?_
      refine lv_goto (tgt := 33) hx hb d_Doors_roomBehind_29 (by decide) ?_
      exact W.toX (W.iret (v := f_Doors_firstRoomOf x a1) hx hb hr (fun t ht hW => ⟨by rw [show f_Doors_roomBehind x a1 a2 = f_Doors_firstRoomOf x a1 from by unfold f_Doors_roomBehind; rw [if_neg c_1, if_pos c_2]], ht⟩) (fun q hq => by cases hq) d_Doors_roomBehind_33)
  · refine lv_aload_n hx hb d_Doors_roomBehind_9 rfl (lv_at hl 0 rfl) ?_
    refine lv_iload_n hx hb d_Doors_roomBehind_10 rfl (lv_at hl 1 rfl) ?_
    refine xv (As := [.int a1]) (rest := []) (C := "PlanRows$Doors") ⟨hx, hb, hml, hown, hts⟩ (c_Doors_secondRoomOf l dC dI cI cZ ad x hI a1) (cw_Doors_36 hts rfl rfl ⟨Nat.le_of_ble_eq_true rfl, Nat.le_of_ble_eq_true rfl⟩) hK hN hP 2 rfl rfl rfl rfl hl.1 rfl (Nat.le_of_ble_eq_true rfl) d_Doors_roomBehind_11 ⟨Nat.zero_le _, Nat.zero_le _⟩ ?_
    exact W.toX (W.iret (v := f_Doors_secondRoomOf x a1) hx hb hr (fun t ht hW => ⟨by rw [show f_Doors_roomBehind x a1 a2 = f_Doors_secondRoomOf x a1 from by unfold f_Doors_roomBehind; rw [if_pos c_1]], ht⟩) (fun q hq => by cases hq) d_Doors_roomBehind_14)
def f_Keys_has (x : ST) (a1 : Int32) : Int32 := if a1 ≤ 0 then 0 else (if 30 < a1 then 0 else 1)
set_option maxHeartbeats 4000000 in
set_option maxRecDepth 100000 in
theorem c_Keys_has (l : Launch) (dC : Nat → ClassId) (dI : Nat → Nat → Nat) (cI cZ : ClassId) (ad : Nat → Nat) (x : ST) (hI : CIn x) (a1 : Int32) : MX l y_Keys_has (Cond.code y_Keys_has b_Keys_has 2 (some .boolean) :: BW) { frames := 0, cells := 0, slots := 0, locals := 0 } (PC (dC, dI) [(cI, .int), (cZ, .boolean)] (wC cI cZ ad x) [.ref (ad 3), .int a1]) (PQ (some (.int (f_Keys_has x a1)))) 0 0 (fun _ => False) := by
  refine MX.ofW (cc := b_Keys_has) (maxL := 2) (ret := (some .boolean)) (by decide) rfl ?_
  intro p e s m args below meth c s₁ B hml hex hv
  obtain ⟨rfl, hP, hK, hN⟩ := hv
  have hx := B.exec
  have hb := B.bytes
  have hr := B.returns
  have hts := atoms_spec (ws := Cond.code y_Keys_has b_Keys_has 2 (some .boolean) :: BW) B.pre
  have hbw : ∀ w ∈ BW, w.before ([.ref (ad 3), .int a1]).toArray s = true := fun w h => hts w (List.mem_cons_of_mem _ h)
  have hown : s.vm.findClass "PlanRows$KeyRing" = some m.cls := findClass_of_methodNamed B.named
  have hlocks := B.notSynchronized
  have hl := lv_entry ([.ref (ad 3), .int a1]) (n := 2) (Nat.le_of_ble_eq_true rfl)
  rw [lg_entry_eq]
  generalize (lg_sl ([.ref (ad 3), .int a1]) ++ List.replicate (2 - (lg_sl ([.ref (ad 3), .int a1])).length) Slot.unset).toArray = ls at hl ⊢
  have hl : lv_has ls 2 [(0, .ref (ad 3)), (1, .int a1)] := hl
  refine lv_iload_n hx hb d_Keys_has_0 rfl (lv_at hl 1 rfl) ?_
  refine lv_if_le (tgt := 14) hx hb d_Keys_has_1 (by decide) (fun c_1 => ?_) (fun c_1 => ?_)
  · refine lv_iconst (v := 0) hx hb d_Keys_has_14 (by decide) ?_
    exact W.toX (W.zret (v := 0) (ty := .boolean) hx hb hr (by rfl) (fun t ht hW => ⟨by rw [show f_Keys_has x a1 = 0 from by unfold f_Keys_has; rw [if_pos c_1]], ht⟩) (fun q hq => by cases hq) d_Keys_has_15)
  · refine lv_iload_n hx hb d_Keys_has_4 rfl (lv_at hl 1 rfl) ?_
    refine lv_bipush (v := 30) hx hb d_Keys_has_5 (by decide) ?_
    refine lv_icmp_gt (tgt := 14) hx hb d_Keys_has_7 (by decide) (fun c_2 => ?_) (fun c_2 => ?_)
    · refine lv_iconst (v := 0) hx hb d_Keys_has_14 (by decide) ?_
      exact W.toX (W.zret (v := 0) (ty := .boolean) hx hb hr (by rfl) (fun t ht hW => ⟨by rw [show f_Keys_has x a1 = 0 from by unfold f_Keys_has; rw [if_neg c_1, if_pos c_2]], ht⟩) (fun q hq => by cases hq) d_Keys_has_15)
    · refine lv_iconst (v := 1) hx hb d_Keys_has_10 (by decide) ?_
      refine lv_goto (tgt := 15) hx hb d_Keys_has_11 (by decide) ?_
      exact W.toX (W.zret (v := 1) (ty := .boolean) hx hb hr (by rfl) (fun t ht hW => ⟨by rw [show f_Keys_has x a1 = 1 from by unfold f_Keys_has; rw [if_neg c_1, if_neg c_2]], ht⟩) (fun q hq => by cases hq) d_Keys_has_15)
theorem ix_keys {x : ST} {a : Int32} (h : ¬ f_Keys_has x a = 0) : vp_in a 31 := by
  unfold f_Keys_has at h
  by_cases h0 : a ≤ 0
  · exact absurd (if_pos h0) h
  · rw [if_neg h0] at h
    by_cases h1 : 30 < a
    · exact absurd (if_pos h1) h
    · refine vp_in_iff.mpr ?_
      rw [Int32.le_iff_toInt_le] at h0
      rw [Int32.lt_iff_toInt_lt] at h1
      have h2 : (0 : Int32).toInt = 0 := rfl
      have h3 : (30 : Int32).toInt = 30 := rfl
      omega
def f_Keys_isAtHand (x : ST) (a1 : Int32) : Int32 := if (f_Keys_has x a1) = 0 then 0 else (if ((q_kh x) a1.toNatClampNeg) = 0 then 0 else 1)
set_option maxHeartbeats 4000000 in
set_option maxRecDepth 100000 in
theorem c_Keys_isAtHand (l : Launch) (dC : Nat → ClassId) (dI : Nat → Nat → Nat) (cI cZ : ClassId) (ad : Nat → Nat) (x : ST) (hI : CIn x) (a1 : Int32) : MX l y_Keys_isAtHand (Cond.code y_Keys_isAtHand b_Keys_isAtHand 2 (some .boolean) :: BW) { frames := 1, cells := 0, slots := 0, locals := 21 } (PC (dC, dI) [(cI, .int), (cZ, .boolean)] (wC cI cZ ad x) [.ref (ad 3), .int a1]) (PQ (some (.int (f_Keys_isAtHand x a1)))) 0 0 (fun _ => False) := by
  refine MX.ofW (cc := b_Keys_isAtHand) (maxL := 2) (ret := (some .boolean)) (by decide) rfl ?_
  intro p e s m args below meth c s₁ B hml hex hv
  obtain ⟨rfl, hP, hK, hN⟩ := hv
  have hx := B.exec
  have hb := B.bytes
  have hr := B.returns
  have hts := atoms_spec (ws := Cond.code y_Keys_isAtHand b_Keys_isAtHand 2 (some .boolean) :: BW) B.pre
  have hbw : ∀ w ∈ BW, w.before ([.ref (ad 3), .int a1]).toArray s = true := fun w h => hts w (List.mem_cons_of_mem _ h)
  have hown : s.vm.findClass "PlanRows$KeyRing" = some m.cls := findClass_of_methodNamed B.named
  have hlocks := B.notSynchronized
  have hl := lv_entry ([.ref (ad 3), .int a1]) (n := 2) (Nat.le_of_ble_eq_true rfl)
  rw [lg_entry_eq]
  generalize (lg_sl ([.ref (ad 3), .int a1]) ++ List.replicate (2 - (lg_sl ([.ref (ad 3), .int a1])).length) Slot.unset).toArray = ls at hl ⊢
  have hl : lv_has ls 2 [(0, .ref (ad 3)), (1, .int a1)] := hl
  refine lv_aload_n hx hb d_Keys_isAtHand_0 rfl (lv_at hl 0 rfl) ?_
  refine lv_iload_n hx hb d_Keys_isAtHand_1 rfl (lv_at hl 1 rfl) ?_
  refine xv (As := [.int a1]) (rest := []) (C := "PlanRows$KeyRing") ⟨hx, hb, hml, hown, hts⟩ (c_Keys_has l dC dI cI cZ ad x hI a1) (cw_Keys_15 hts rfl rfl ⟨Nat.le_of_ble_eq_true rfl, Nat.le_of_ble_eq_true rfl⟩) hK hN hP 3 rfl rfl rfl rfl hl.1 rfl (Nat.le_of_ble_eq_true rfl) d_Keys_isAtHand_2 ⟨Nat.zero_le _, Nat.zero_le _⟩ ?_
  refine lv_if_eq (tgt := 21) hx hb d_Keys_isAtHand_5 (by decide) (fun c_1 => ?_) (fun c_1 => ?_)
  · refine lv_iconst (v := 0) hx hb d_Keys_isAtHand_21 (by decide) ?_
    exact W.toX (W.zret (v := 0) (ty := .boolean) hx hb hr (by rfl) (fun t ht hW => ⟨by rw [show f_Keys_isAtHand x a1 = 0 from by unfold f_Keys_isAtHand; rw [if_pos c_1]], ht⟩) (fun q hq => by cases hq) d_Keys_isAtHand_22)
  · refine lv_aload_n hx hb d_Keys_isAtHand_8 rfl (lv_at hl 0 rfl) ?_
    refine va_get (D := (dC, dI)) (ci := 3) (v := .ref (ad 16)) (C := R_Keys) (T := F_Keys) (N := 2) hx hb hbw in_Keys hown hK hP 3 rfl rfl 0 (by decide) (hbw _ w_80) (fun _ h9 => h9) rfl d_Keys_isAtHand_9 ?_
    refine lv_iload_n hx hb d_Keys_isAtHand_12 rfl (lv_at hl 1 rfl) ?_
    refine va_zald hx hb hK hP 16 1 rfl rfl (ix_keys c_1) d_Keys_isAtHand_13 ?_
    refine lv_if_eq (tgt := 21) hx hb d_Keys_isAtHand_14 (by decide) (fun c_2 => ?_) (fun c_2 => ?_)
    · refine lv_iconst (v := 0) hx hb d_Keys_isAtHand_21 (by decide) ?_
      exact W.toX (W.zret (v := 0) (ty := .boolean) hx hb hr (by rfl) (fun t ht hW => ⟨by rw [show f_Keys_isAtHand x a1 = 0 from by unfold f_Keys_isAtHand; rw [if_neg c_1, if_pos c_2]], ht⟩) (fun q hq => by cases hq) d_Keys_isAtHand_22)
    · refine lv_iconst (v := 1) hx hb d_Keys_isAtHand_17 (by decide) ?_
      refine lv_goto (tgt := 22) hx hb d_Keys_isAtHand_18 (by decide) ?_
      exact W.toX (W.zret (v := 1) (ty := .boolean) hx hb hr (by rfl) (fun t ht hW => ⟨by rw [show f_Keys_isAtHand x a1 = 1 from by unfold f_Keys_isAtHand; rw [if_neg c_1, if_neg c_2]], ht⟩) (fun q hq => by cases hq) d_Keys_isAtHand_22)
theorem ix_back {a n : Int32} {N : Nat} (h0 : ¬ a < 0) (h1 : ¬ n ≤ a) (hn0 : 0 ≤ n.toInt) (hn : n.toInt ≤ N) (hN : N < 1000) : vp_in (n - 1 - a) N := by
  rw [Int32.lt_iff_toInt_lt] at h0
  rw [Int32.le_iff_toInt_le] at h1
  have h2 : (0 : Int32).toInt = 0 := rfl
  have h3 : (1 : Int32).toInt = 1 := rfl
  refine vp_in_iff.mpr ?_
  have e1 : (n - 1).toInt = n.toInt - 1 := by
    rw [Int32.toInt_sub, h3]
    exact Int.bmod_eq_of_le (by omega) (by omega)
  have e2 : (n - 1 - a).toInt = n.toInt - 1 - a.toInt := by
    rw [Int32.toInt_sub, e1]
    exact Int.bmod_eq_of_le (by omega) (by omega)
  omega
def f_Route_doorAt (x : ST) (a1 : Int32) : Int32 := if a1 < 0 then (-1) else (if (q_rl x) ≤ a1 then (-1) else (q_rd x) (((q_rl x) - 1) - a1).toNatClampNeg)
set_option maxHeartbeats 4000000 in
set_option maxRecDepth 100000 in
theorem c_Route_doorAt (l : Launch) (dC : Nat → ClassId) (dI : Nat → Nat → Nat) (cI cZ : ClassId) (ad : Nat → Nat) (x : ST) (hI : CIn x) (a1 : Int32) : MX l y_Route_doorAt (Cond.code y_Route_doorAt b_Route_doorAt 2 (some .int) :: BW) { frames := 0, cells := 0, slots := 0, locals := 0 } (PC (dC, dI) [(cI, .int), (cZ, .boolean)] (wC cI cZ ad x) [.ref (ad 5), .int a1]) (PQ (some (.int (f_Route_doorAt x a1)))) 0 0 (fun _ => False) := by
  refine MX.ofW (cc := b_Route_doorAt) (maxL := 2) (ret := (some .int)) (by decide) rfl ?_
  intro p e s m args below meth c s₁ B hml hex hv
  obtain ⟨rfl, hP, hK, hN⟩ := hv
  have hx := B.exec
  have hb := B.bytes
  have hr := B.returns
  have hts := atoms_spec (ws := Cond.code y_Route_doorAt b_Route_doorAt 2 (some .int) :: BW) B.pre
  have hbw : ∀ w ∈ BW, w.before ([.ref (ad 5), .int a1]).toArray s = true := fun w h => hts w (List.mem_cons_of_mem _ h)
  have hown : s.vm.findClass "PlanRows$Route" = some m.cls := findClass_of_methodNamed B.named
  have hlocks := B.notSynchronized
  have hl := lv_entry ([.ref (ad 5), .int a1]) (n := 2) (Nat.le_of_ble_eq_true rfl)
  rw [lg_entry_eq]
  generalize (lg_sl ([.ref (ad 5), .int a1]) ++ List.replicate (2 - (lg_sl ([.ref (ad 5), .int a1])).length) Slot.unset).toArray = ls at hl ⊢
  have hl : lv_has ls 2 [(0, .ref (ad 5)), (1, .int a1)] := hl
  refine lv_iload_n hx hb d_Route_doorAt_0 rfl (lv_at hl 1 rfl) ?_
  refine lv_if_lt (tgt := 28) hx hb d_Route_doorAt_1 (by decide) (fun c_1 => ?_) (fun c_1 => ?_)
  · refine lv_iconst (v := (-1)) hx hb d_Route_doorAt_28 (by decide) ?_
    exact W.toX (W.iret (v := (-1)) hx hb hr (fun t ht hW => ⟨by rw [show f_Route_doorAt x a1 = (-1) from by unfold f_Route_doorAt; rw [if_pos c_1]], ht⟩) (fun q hq => by cases hq) d_Route_doorAt_29)
  · refine lv_iload_n hx hb d_Route_doorAt_4 rfl (lv_at hl 1 rfl) ?_
    refine lv_aload_n hx hb d_Route_doorAt_5 rfl (lv_at hl 0 rfl) ?_
    refine va_get (D := (dC, dI)) (ci := 5) (v := .int (q_rl x)) (C := R_Route) (T := F_Route) (N := 4) hx hb hbw in_Route hown hK hP 5 rfl rfl 1 (by decide) (hbw _ w_115) (fun _ h9 => h9) rfl d_Route_doorAt_6 ?_
    refine lv_icmp_ge (tgt := 28) hx hb d_Route_doorAt_9 (by decide) (fun c_2 => ?_) (fun c_2 => ?_)
    · refine lv_iconst (v := (-1)) hx hb d_Route_doorAt_28 (by decide) ?_
      exact W.toX (W.iret (v := (-1)) hx hb hr (fun t ht hW => ⟨by rw [show f_Route_doorAt x a1 = (-1) from by unfold f_Route_doorAt; rw [if_neg c_1, if_pos c_2]], ht⟩) (fun q hq => by cases hq) d_Route_doorAt_29)
    · refine lv_aload_n hx hb d_Route_doorAt_12 rfl (lv_at hl 0 rfl) ?_
      refine va_get (D := (dC, dI)) (ci := 5) (v := .ref (ad 18)) (C := R_Route) (T := F_Route) (N := 4) hx hb hbw in_Route hown hK hP 5 rfl rfl 0 (by decide) (hbw _ w_114) (fun _ h9 => h9) rfl d_Route_doorAt_13 ?_
      refine lv_aload_n hx hb d_Route_doorAt_16 rfl (lv_at hl 0 rfl) ?_
      refine va_get (D := (dC, dI)) (ci := 5) (v := .int (q_rl x)) (C := R_Route) (T := F_Route) (N := 4) hx hb hbw in_Route hown hK hP 5 rfl rfl 1 (by decide) (hbw _ w_115) (fun _ h9 => h9) rfl d_Route_doorAt_17 ?_
      refine lv_iconst (v := 1) hx hb d_Route_doorAt_20 (by decide) ?_
      refine lv_isub hx hb d_Route_doorAt_21 ?_
      refine lv_iload_n hx hb d_Route_doorAt_22 rfl (lv_at hl 1 rfl) ?_
      refine lv_isub hx hb d_Route_doorAt_23 ?_
      refine va_iald hx hb hK hP 18 0 rfl rfl (ix_back c_1 c_2 hI.2.2.2.2.2.1 hI.2.2.2.2.2.2 (by decide)) d_Route_doorAt_24 ?_
      refine lv_goto (tgt := 29) hx hb d_Route_doorAt_25 (by decide) ?_
      exact W.toX (W.iret (v := (q_rd x) (((q_rl x) - 1) - a1).toNatClampNeg) hx hb hr (fun t ht hW => ⟨by rw [show f_Route_doorAt x a1 = (q_rd x) (((q_rl x) - 1) - a1).toNatClampNeg from by unfold f_Route_doorAt; rw [if_neg c_1, if_neg c_2]], ht⟩) (fun q hq => by cases hq) d_Route_doorAt_29)
def f_Win_has (x : ST) (a1 : Int32) : Int32 := if a1 < 0 then 0 else (if (q_wc x) ≤ a1 then 0 else 1)
set_option maxHeartbeats 4000000 in
set_option maxRecDepth 100000 in
theorem c_Win_has (l : Launch) (dC : Nat → ClassId) (dI : Nat → Nat → Nat) (cI cZ : ClassId) (ad : Nat → Nat) (x : ST) (hI : CIn x) (a1 : Int32) : MX l y_Win_has (Cond.code y_Win_has b_Win_has 2 (some .boolean) :: BW) { frames := 0, cells := 0, slots := 0, locals := 0 } (PC (dC, dI) [(cI, .int), (cZ, .boolean)] (wC cI cZ ad x) [.ref (ad 8), .int a1]) (PQ (some (.int (f_Win_has x a1)))) 0 0 (fun _ => False) := by
  refine MX.ofW (cc := b_Win_has) (maxL := 2) (ret := (some .boolean)) (by decide) rfl ?_
  intro p e s m args below meth c s₁ B hml hex hv
  obtain ⟨rfl, hP, hK, hN⟩ := hv
  have hx := B.exec
  have hb := B.bytes
  have hr := B.returns
  have hts := atoms_spec (ws := Cond.code y_Win_has b_Win_has 2 (some .boolean) :: BW) B.pre
  have hbw : ∀ w ∈ BW, w.before ([.ref (ad 8), .int a1]).toArray s = true := fun w h => hts w (List.mem_cons_of_mem _ h)
  have hown : s.vm.findClass "PlanRows$Windows" = some m.cls := findClass_of_methodNamed B.named
  have hlocks := B.notSynchronized
  have hl := lv_entry ([.ref (ad 8), .int a1]) (n := 2) (Nat.le_of_ble_eq_true rfl)
  rw [lg_entry_eq]
  generalize (lg_sl ([.ref (ad 8), .int a1]) ++ List.replicate (2 - (lg_sl ([.ref (ad 8), .int a1])).length) Slot.unset).toArray = ls at hl ⊢
  have hl : lv_has ls 2 [(0, .ref (ad 8)), (1, .int a1)] := hl
  refine lv_iload_n hx hb d_Win_has_0 rfl (lv_at hl 1 rfl) ?_
  refine lv_if_lt (tgt := 16) hx hb d_Win_has_1 (by decide) (fun c_1 => ?_) (fun c_1 => ?_)
  · refine lv_iconst (v := 0) hx hb d_Win_has_16 (by decide) ?_
    exact W.toX (W.zret (v := 0) (ty := .boolean) hx hb hr (by rfl) (fun t ht hW => ⟨by rw [show f_Win_has x a1 = 0 from by unfold f_Win_has; rw [if_pos c_1]], ht⟩) (fun q hq => by cases hq) d_Win_has_17)
  · refine lv_iload_n hx hb d_Win_has_4 rfl (lv_at hl 1 rfl) ?_
    refine lv_aload_n hx hb d_Win_has_5 rfl (lv_at hl 0 rfl) ?_
    refine va_get (D := (dC, dI)) (ci := 7) (v := .int (q_wc x)) (C := R_Win) (T := F_Win) (N := 4) hx hb hbw in_Win hown hK hP 8 rfl rfl 3 (by decide) (hbw _ w_181) (fun _ h9 => h9) rfl d_Win_has_6 ?_
    refine lv_icmp_ge (tgt := 16) hx hb d_Win_has_9 (by decide) (fun c_2 => ?_) (fun c_2 => ?_)
    · refine lv_iconst (v := 0) hx hb d_Win_has_16 (by decide) ?_
      exact W.toX (W.zret (v := 0) (ty := .boolean) hx hb hr (by rfl) (fun t ht hW => ⟨by rw [show f_Win_has x a1 = 0 from by unfold f_Win_has; rw [if_neg c_1, if_pos c_2]], ht⟩) (fun q hq => by cases hq) d_Win_has_17)
    · refine lv_iconst (v := 1) hx hb d_Win_has_12 (by decide) ?_
      refine lv_goto (tgt := 17) hx hb d_Win_has_13 (by decide) ?_
      exact W.toX (W.zret (v := 1) (ty := .boolean) hx hb hr (by rfl) (fun t ht hW => ⟨by rw [show f_Win_has x a1 = 1 from by unfold f_Win_has; rw [if_neg c_1, if_neg c_2]], ht⟩) (fun q hq => by cases hq) d_Win_has_17)
def f_Crowd_isBetween (a1 a2 a3 : Int32) : Int32 := if a2 ≤ a3 then (if a1 < a2 then 0 else (if a3 < a1 then 0 else 1)) else (if a2 ≤ a1 then 1 else (if a3 < a1 then 0 else 1))
set_option maxHeartbeats 4000000 in
set_option maxRecDepth 100000 in
theorem c_Crowd_isBetween (l : Launch) (dC : Nat → ClassId) (dI : Nat → Nat → Nat) (tys : List (ClassId × FieldType)) (ww : va_W) (a1 a2 a3 : Int32) : MX l y_Crowd_isBetween (Cond.code y_Crowd_isBetween b_Crowd_isBetween 4 (some .boolean) :: BW) { frames := 0, cells := 0, slots := 0, locals := 0 } (PC (dC, dI) tys ww [.int a1, .int a2, .int a3]) (PQ (some (.int (f_Crowd_isBetween a1 a2 a3)))) 0 0 (fun _ => False) := by
  refine MX.ofW (cc := b_Crowd_isBetween) (maxL := 4) (ret := (some .boolean)) (by decide) rfl ?_
  intro p e s m args below meth c s₁ B hml hex hv
  obtain ⟨rfl, hP, hK, hN⟩ := hv
  have hx := B.exec
  have hb := B.bytes
  have hr := B.returns
  have hts := atoms_spec (ws := Cond.code y_Crowd_isBetween b_Crowd_isBetween 4 (some .boolean) :: BW) B.pre
  have hbw : ∀ w ∈ BW, w.before ([.int a1, .int a2, .int a3]).toArray s = true := fun w h => hts w (List.mem_cons_of_mem _ h)
  have hown : s.vm.findClass "PlanRows$Crowd" = some m.cls := findClass_of_methodNamed B.named
  have hlocks := B.notSynchronized
  have hl := lv_entry ([.int a1, .int a2, .int a3]) (n := 4) (Nat.le_of_ble_eq_true rfl)
  rw [lg_entry_eq]
  generalize (lg_sl ([.int a1, .int a2, .int a3]) ++ List.replicate (4 - (lg_sl ([.int a1, .int a2, .int a3])).length) Slot.unset).toArray = ls at hl ⊢
  have hl : lv_has ls 4 [(0, .int a1), (1, .int a2), (2, .int a3)] := hl
  refine lv_iload_n hx hb d_Crowd_isBetween_0 rfl (lv_at hl 2 rfl) ?_
  refine lv_iload_n hx hb d_Crowd_isBetween_1 rfl (lv_at hl 1 rfl) ?_
  refine lv_icmp_ge (tgt := 9) hx hb d_Crowd_isBetween_2 (by decide) (fun c_1 => ?_) (fun c_1 => ?_)
  · refine lv_iconst (v := 0) hx hb d_Crowd_isBetween_9 (by decide) ?_
    refine lv_istore_n (lv' := [(3, .int 0), (0, .int a1), (1, .int a2), (2, .int a3)]) hx hb d_Crowd_isBetween_10 rfl hl (by decide) rfl (fun ls hl => ?_)
    refine lv_iload_n hx hb d_Crowd_isBetween_11 rfl (lv_at hl 0 rfl) ?_
    refine lv_if_eq (tgt := 33) hx hb d_Crowd_isBetween_12 (by decide) (fun c_2 => ?_) (fun c_2 => ?_)
    · refine lv_iload_n hx hb d_Crowd_isBetween_33 rfl (lv_at hl 1 rfl) ?_
      refine lv_iload_n hx hb d_Crowd_isBetween_34 rfl (lv_at hl 2 rfl) ?_
      refine lv_icmp_lt (tgt := 47) hx hb d_Crowd_isBetween_35 (by decide) (fun c_3 => ?_) (fun c_3 => ?_)
      · refine lv_iconst (v := 0) hx hb d_Crowd_isBetween_47 (by decide) ?_
        exact W.toX (W.zret (v := 0) (ty := .boolean) hx hb hr (by rfl) (fun t ht hW => ⟨by rw [show f_Crowd_isBetween a1 a2 a3 = 0 from by unfold f_Crowd_isBetween; rw [if_pos c_1, if_pos c_3]], ht⟩) (fun q hq => by cases hq) d_Crowd_isBetween_48)
      · refine lv_iload_n hx hb d_Crowd_isBetween_38 rfl (lv_at hl 1 rfl) ?_
        refine lv_iload_n hx hb d_Crowd_isBetween_39 rfl (lv_at hl 3 rfl) ?_
        refine lv_icmp_gt (tgt := 47) hx hb d_Crowd_isBetween_40 (by decide) (fun c_4 => ?_) (fun c_4 => ?_)
        · refine lv_iconst (v := 0) hx hb d_Crowd_isBetween_47 (by decide) ?_
          exact W.toX (W.zret (v := 0) (ty := .boolean) hx hb hr (by rfl) (fun t ht hW => ⟨by rw [show f_Crowd_isBetween a1 a2 a3 = 0 from by unfold f_Crowd_isBetween; rw [if_pos c_1, if_neg c_3, if_pos c_4]], ht⟩) (fun q hq => by cases hq) d_Crowd_isBetween_48)
        · refine lv_iconst (v := 1) hx hb d_Crowd_isBetween_43 (by decide) ?_
          refine lv_goto (tgt := 48) hx hb d_Crowd_isBetween_44 (by decide) ?_
          exact W.toX (W.zret (v := 1) (ty := .boolean) hx hb hr (by rfl) (fun t ht hW => ⟨by rw [show f_Crowd_isBetween a1 a2 a3 = 1 from by unfold f_Crowd_isBetween; rw [if_pos c_1, if_neg c_3, if_neg c_4]], ht⟩) (fun q hq => by cases hq) d_Crowd_isBetween_48)
    · exact absurd c_2 (by decide)
  · refine lv_iconst (v := 1) hx hb d_Crowd_isBetween_5 (by decide) ?_
    refine lv_goto (tgt := 10) hx hb d_Crowd_isBetween_6 (by decide) ?_
    refine lv_istore_n (lv' := [(3, .int 1), (0, .int a1), (1, .int a2), (2, .int a3)]) hx hb d_Crowd_isBetween_10 rfl hl (by decide) rfl (fun ls hl => ?_)
    refine lv_iload_n hx hb d_Crowd_isBetween_11 rfl (lv_at hl 0 rfl) ?_
    refine lv_if_eq (tgt := 33) hx hb d_Crowd_isBetween_12 (by decide) (fun c_5 => ?_) (fun c_5 => ?_)
    · exact absurd c_5 (by decide)
    · refine lv_iload_n hx hb d_Crowd_isBetween_15 rfl (lv_at hl 1 rfl) ?_
      refine lv_iload_n hx hb d_Crowd_isBetween_16 rfl (lv_at hl 2 rfl) ?_
      refine lv_icmp_ge (tgt := 25) hx hb d_Crowd_isBetween_17 (by decide) (fun c_6 => ?_) (fun c_6 => ?_)
      · refine lv_iconst (v := 1) hx hb d_Crowd_isBetween_25 (by decide) ?_
        refine lv_goto (tgt := 48) hx hb d_Crowd_isBetween_26 (by decide) ?_
        exact W.toX (W.zret (v := 1) (ty := .boolean) hx hb hr (by rfl) (fun t ht hW => ⟨by rw [show f_Crowd_isBetween a1 a2 a3 = 1 from by unfold f_Crowd_isBetween; rw [if_neg c_1, if_pos c_6]], ht⟩) (fun q hq => by cases hq) d_Crowd_isBetween_48)
      · refine lv_iload_n hx hb d_Crowd_isBetween_20 rfl (lv_at hl 1 rfl) ?_
        refine lv_iload_n hx hb d_Crowd_isBetween_21 rfl (lv_at hl 3 rfl) ?_
        refine lv_icmp_gt (tgt := 29) hx hb d_Crowd_isBetween_22 (by decide) (fun c_7 => ?_) (fun c_7 => ?_)
        · refine lv_iconst (v := 0) hx hb d_Crowd_isBetween_29 (by decide) ?_
          refine lv_goto (tgt := 48) hx hb d_Crowd_isBetween_30 (by decide) ?_
          exact W.toX (W.zret (v := 0) (ty := .boolean) hx hb hr (by rfl) (fun t ht hW => ⟨by rw [show f_Crowd_isBetween a1 a2 a3 = 0 from by unfold f_Crowd_isBetween; rw [if_neg c_1, if_neg c_6, if_pos c_7]], ht⟩) (fun q hq => by cases hq) d_Crowd_isBetween_48)
        · refine lv_iconst (v := 1) hx hb d_Crowd_isBetween_25 (by decide) ?_
          refine lv_goto (tgt := 48) hx hb d_Crowd_isBetween_26 (by decide) ?_
          exact W.toX (W.zret (v := 1) (ty := .boolean) hx hb hr (by rfl) (fun t ht hW => ⟨by rw [show f_Crowd_isBetween a1 a2 a3 = 1 from by unfold f_Crowd_isBetween; rw [if_neg c_1, if_neg c_6, if_neg c_7]], ht⟩) (fun q hq => by cases hq) d_Crowd_isBetween_48)
def f_Search_isPassed (x : ST) (a1 : Int32) : Int32 := if (f_Doors_keyOf x a1) = 0 then 1 else (if (f_Keys_isAtHand x (f_Doors_keyOf x a1)) = 0 then 0 else 1)
set_option maxHeartbeats 4000000 in
set_option maxRecDepth 100000 in
theorem c_Search_isPassed (l : Launch) (dC : Nat → ClassId) (dI : Nat → Nat → Nat) (cI cZ : ClassId) (ad : Nat → Nat) (x : ST) (hI : CIn x) (a1 : Int32) : MX l y_Search_isPassed (Cond.code y_Search_isPassed b_Search_isPassed 3 (some .boolean) :: BW) { frames := 2, cells := 0, slots := 0, locals := 42 } (PC (dC, dI) [(cI, .int), (cZ, .boolean)] (wC cI cZ ad x) [.ref (ad 4), .int a1]) (PQ (some (.int (f_Search_isPassed x a1)))) 0 0 (fun _ => False) := by
  refine MX.ofW (cc := b_Search_isPassed) (maxL := 3) (ret := (some .boolean)) (by decide) rfl ?_
  intro p e s m args below meth c s₁ B hml hex hv
  obtain ⟨rfl, hP, hK, hN⟩ := hv
  have hx := B.exec
  have hb := B.bytes
  have hr := B.returns
  have hts := atoms_spec (ws := Cond.code y_Search_isPassed b_Search_isPassed 3 (some .boolean) :: BW) B.pre
  have hbw : ∀ w ∈ BW, w.before ([.ref (ad 4), .int a1]).toArray s = true := fun w h => hts w (List.mem_cons_of_mem _ h)
  have hown : s.vm.findClass "PlanRows$Search" = some m.cls := findClass_of_methodNamed B.named
  have hlocks := B.notSynchronized
  have hl := lv_entry ([.ref (ad 4), .int a1]) (n := 3) (Nat.le_of_ble_eq_true rfl)
  rw [lg_entry_eq]
  generalize (lg_sl ([.ref (ad 4), .int a1]) ++ List.replicate (3 - (lg_sl ([.ref (ad 4), .int a1])).length) Slot.unset).toArray = ls at hl ⊢
  have hl : lv_has ls 3 [(0, .ref (ad 4)), (1, .int a1)] := hl
  refine lv_aload_n hx hb d_Search_isPassed_0 rfl (lv_at hl 0 rfl) ?_
  refine va_get (D := (dC, dI)) (ci := 6) (v := .ref (ad 2)) (C := R_Search) (T := F_Search) (N := 4) hx hb hbw in_Search hown hK hP 4 rfl rfl 1 (by decide) (hbw _ w_96) (fun _ h9 => h9) rfl d_Search_isPassed_1 ?_
  refine lv_iload_n hx hb d_Search_isPassed_4 rfl (lv_at hl 1 rfl) ?_
  refine xv (As := [.int a1]) (rest := []) (C := "PlanRows$Doors") ⟨hx, hb, hml, hown, hts⟩ (c_Doors_keyOf l dC dI cI cZ ad x hI a1) (cw_Search_80 hts rfl rfl ⟨Nat.le_of_ble_eq_true rfl, Nat.le_of_ble_eq_true rfl⟩) hK hN hP 2 rfl rfl rfl rfl hl.1 rfl (Nat.le_of_ble_eq_true rfl) d_Search_isPassed_5 ⟨Nat.zero_le _, Nat.zero_le _⟩ ?_
  refine lv_istore_n (lv' := [(2, .int (f_Doors_keyOf x a1)), (0, .ref (ad 4)), (1, .int a1)]) hx hb d_Search_isPassed_8 rfl hl (by decide) rfl (fun ls hl => ?_)
  refine lv_iload_n hx hb d_Search_isPassed_9 rfl (lv_at hl 0 rfl) ?_
  refine lv_if_eq (tgt := 24) hx hb d_Search_isPassed_10 (by decide) (fun c_1 => ?_) (fun c_1 => ?_)
  · refine lv_iconst (v := 1) hx hb d_Search_isPassed_24 (by decide) ?_
    refine lv_goto (tgt := 29) hx hb d_Search_isPassed_25 (by decide) ?_
    exact W.toX (W.zret (v := 1) (ty := .boolean) hx hb hr (by rfl) (fun t ht hW => ⟨by rw [show f_Search_isPassed x a1 = 1 from by unfold f_Search_isPassed; rw [if_pos c_1]], ht⟩) (fun q hq => by cases hq) d_Search_isPassed_29)
  · refine lv_aload_n hx hb d_Search_isPassed_13 rfl (lv_at hl 1 rfl) ?_
    refine va_get (D := (dC, dI)) (ci := 6) (v := .ref (ad 3)) (C := R_Search) (T := F_Search) (N := 4) hx hb hbw in_Search hown hK hP 4 rfl rfl 2 (by decide) (hbw _ w_97) (fun _ h9 => h9) rfl d_Search_isPassed_14 ?_
    refine lv_iload_n hx hb d_Search_isPassed_17 rfl (lv_at hl 0 rfl) ?_
    refine xv (As := [.int (f_Doors_keyOf x a1)]) (rest := []) (C := "PlanRows$KeyRing") ⟨hx, hb, hml, hown, hts⟩ (c_Keys_isAtHand l dC dI cI cZ ad x hI (f_Doors_keyOf x a1)) (cw_Search_83 hts rfl rfl ⟨Nat.le_of_ble_eq_true rfl, Nat.le_of_ble_eq_true rfl⟩) hK hN hP 3 rfl rfl rfl rfl hl.1 rfl (Nat.le_of_ble_eq_true rfl) d_Search_isPassed_18 ⟨Nat.zero_le _, Nat.zero_le _⟩ ?_
    refine lv_if_eq (tgt := 28) hx hb d_Search_isPassed_21 (by decide) (fun c_2 => ?_) (fun c_2 => ?_)
    · refine lv_iconst (v := 0) hx hb d_Search_isPassed_28 (by decide) ?_
      exact W.toX (W.zret (v := 0) (ty := .boolean) hx hb hr (by rfl) (fun t ht hW => ⟨by rw [show f_Search_isPassed x a1 = 0 from by unfold f_Search_isPassed; rw [if_neg c_1, if_pos c_2]], ht⟩) (fun q hq => by cases hq) d_Search_isPassed_29)
    · refine lv_iconst (v := 1) hx hb d_Search_isPassed_24 (by decide) ?_
      refine lv_goto (tgt := 29) hx hb d_Search_isPassed_25 (by decide) ?_
      exact W.toX (W.zret (v := 1) (ty := .boolean) hx hb hr (by rfl) (fun t ht hW => ⟨by rw [show f_Search_isPassed x a1 = 1 from by unfold f_Search_isPassed; rw [if_neg c_1, if_neg c_2]], ht⟩) (fun q hq => by cases hq) d_Search_isPassed_29)
def f_Search_isReached (x : ST) (a1 : Int32) : Int32 := if (f_Rooms_has x a1) = 0 then 0 else (if ((q_co x) a1.toNatClampNeg) = 1000000000 then 0 else 1)
set_option maxHeartbeats 4000000 in
set_option maxRecDepth 100000 in
theorem c_Search_isReached (l : Launch) (dC : Nat → ClassId) (dI : Nat → Nat → Nat) (cI cZ : ClassId) (ad : Nat → Nat) (x : ST) (hI : CIn x) (a1 : Int32) : MX l y_Search_isReached (Cond.code y_Search_isReached b_Search_isReached 2 (some .boolean) :: BW) { frames := 1, cells := 0, slots := 0, locals := 21 } (PC (dC, dI) [(cI, .int), (cZ, .boolean)] (wC cI cZ ad x) [.ref (ad 4), .int a1]) (PQ (some (.int (f_Search_isReached x a1)))) 0 0 (fun _ => False) := by
  refine MX.ofW (cc := b_Search_isReached) (maxL := 2) (ret := (some .boolean)) (by decide) rfl ?_
  intro p e s m args below meth c s₁ B hml hex hv
  obtain ⟨rfl, hP, hK, hN⟩ := hv
  have hx := B.exec
  have hb := B.bytes
  have hr := B.returns
  have hts := atoms_spec (ws := Cond.code y_Search_isReached b_Search_isReached 2 (some .boolean) :: BW) B.pre
  have hbw : ∀ w ∈ BW, w.before ([.ref (ad 4), .int a1]).toArray s = true := fun w h => hts w (List.mem_cons_of_mem _ h)
  have hown : s.vm.findClass "PlanRows$Search" = some m.cls := findClass_of_methodNamed B.named
  have hlocks := B.notSynchronized
  have hl := lv_entry ([.ref (ad 4), .int a1]) (n := 2) (Nat.le_of_ble_eq_true rfl)
  rw [lg_entry_eq]
  generalize (lg_sl ([.ref (ad 4), .int a1]) ++ List.replicate (2 - (lg_sl ([.ref (ad 4), .int a1])).length) Slot.unset).toArray = ls at hl ⊢
  have hl : lv_has ls 2 [(0, .ref (ad 4)), (1, .int a1)] := hl
  refine lv_aload_n hx hb d_Search_isReached_0 rfl (lv_at hl 0 rfl) ?_
  refine va_get (D := (dC, dI)) (ci := 6) (v := .ref (ad 1)) (C := R_Search) (T := F_Search) (N := 4) hx hb hbw in_Search hown hK hP 4 rfl rfl 0 (by decide) (hbw _ w_95) (fun _ h9 => h9) rfl d_Search_isReached_1 ?_
  refine lv_iload_n hx hb d_Search_isReached_4 rfl (lv_at hl 1 rfl) ?_
  refine xv (As := [.int a1]) (rest := []) (C := "PlanRows$Rooms") ⟨hx, hb, hml, hown, hts⟩ (c_Rooms_has l dC dI cI cZ ad x hI a1) (cw_Search_34 hts rfl rfl ⟨Nat.le_of_ble_eq_true rfl, Nat.le_of_ble_eq_true rfl⟩) hK hN hP 1 rfl rfl rfl rfl hl.1 rfl (Nat.le_of_ble_eq_true rfl) d_Search_isReached_5 ⟨Nat.zero_le _, Nat.zero_le _⟩ ?_
  refine lv_if_eq (tgt := 26) hx hb d_Search_isReached_8 (by decide) (fun c_1 => ?_) (fun c_1 => ?_)
  · refine lv_iconst (v := 0) hx hb d_Search_isReached_26 (by decide) ?_
    exact W.toX (W.zret (v := 0) (ty := .boolean) hx hb hr (by rfl) (fun t ht hW => ⟨by rw [show f_Search_isReached x a1 = 0 from by unfold f_Search_isReached; rw [if_pos c_1]], ht⟩) (fun q hq => by cases hq) d_Search_isReached_27)
  · refine lv_aload_n hx hb d_Search_isReached_11 rfl (lv_at hl 0 rfl) ?_
    refine va_get (D := (dC, dI)) (ci := 6) (v := .ref (ad 17)) (C := R_Search) (T := F_Search) (N := 4) hx hb hbw in_Search hown hK hP 4 rfl rfl 3 (by decide) (hbw _ w_98) (fun _ h9 => h9) rfl d_Search_isReached_12 ?_
    refine lv_iload_n hx hb d_Search_isReached_15 rfl (lv_at hl 1 rfl) ?_
    refine va_iald hx hb hK hP 17 0 rfl rfl (ix_rooms hI c_1) d_Search_isReached_16 ?_
    refine lv_ldc (v := 1000000000) hx hb hown (hbw _ w_436) d_Search_isReached_17 ?_
    refine lv_icmp_eq (tgt := 26) hx hb d_Search_isReached_19 (by decide) (fun c_2 => ?_) (fun c_2 => ?_)
    · refine lv_iconst (v := 0) hx hb d_Search_isReached_26 (by decide) ?_
      exact W.toX (W.zret (v := 0) (ty := .boolean) hx hb hr (by rfl) (fun t ht hW => ⟨by rw [show f_Search_isReached x a1 = 0 from by unfold f_Search_isReached; rw [if_neg c_1, if_pos c_2]], ht⟩) (fun q hq => by cases hq) d_Search_isReached_27)
    · refine lv_iconst (v := 1) hx hb d_Search_isReached_22 (by decide) ?_
      refine lv_goto (tgt := 27) hx hb d_Search_isReached_23 (by decide) ?_
      exact W.toX (W.zret (v := 1) (ty := .boolean) hx hb hr (by rfl) (fun t ht hW => ⟨by rw [show f_Search_isReached x a1 = 1 from by unfold f_Search_isReached; rw [if_neg c_1, if_neg c_2]], ht⟩) (fun q hq => by cases hq) d_Search_isReached_27)
theorem ix_reached {x : ST} {a : Int32} (hI : CIn x) (h : ¬ f_Search_isReached x a = 0) : vp_in a 40 := by
  unfold f_Search_isReached at h
  by_cases h0 : f_Rooms_has x a = 0
  · exact absurd (if_pos h0) h
  · exact ix_rooms hI h0
def f_Search_metresTo (x : ST) (a1 : Int32) : Int32 := if (f_Search_isReached x a1) = 0 then (-1) else ((q_co x) a1.toNatClampNeg) / 64
set_option maxHeartbeats 4000000 in
set_option maxRecDepth 100000 in
theorem c_Search_metresTo (l : Launch) (dC : Nat → ClassId) (dI : Nat → Nat → Nat) (cI cZ : ClassId) (ad : Nat → Nat) (x : ST) (hI : CIn x) (a1 : Int32) : MX l y_Search_metresTo (Cond.code y_Search_metresTo b_Search_metresTo 2 (some .int) :: BW) { frames := 2, cells := 0, slots := 0, locals := 42 } (PC (dC, dI) [(cI, .int), (cZ, .boolean)] (wC cI cZ ad x) [.ref (ad 4), .int a1]) (PQ (some (.int (f_Search_metresTo x a1)))) 0 0 (fun _ => False) := by
  refine MX.ofW (cc := b_Search_metresTo) (maxL := 2) (ret := (some .int)) (by decide) rfl ?_
  intro p e s m args below meth c s₁ B hml hex hv
  obtain ⟨rfl, hP, hK, hN⟩ := hv
  have hx := B.exec
  have hb := B.bytes
  have hr := B.returns
  have hts := atoms_spec (ws := Cond.code y_Search_metresTo b_Search_metresTo 2 (some .int) :: BW) B.pre
  have hbw : ∀ w ∈ BW, w.before ([.ref (ad 4), .int a1]).toArray s = true := fun w h => hts w (List.mem_cons_of_mem _ h)
  have hown : s.vm.findClass "PlanRows$Search" = some m.cls := findClass_of_methodNamed B.named
  have hlocks := B.notSynchronized
  have hl := lv_entry ([.ref (ad 4), .int a1]) (n := 2) (Nat.le_of_ble_eq_true rfl)
  rw [lg_entry_eq]
  generalize (lg_sl ([.ref (ad 4), .int a1]) ++ List.replicate (2 - (lg_sl ([.ref (ad 4), .int a1])).length) Slot.unset).toArray = ls at hl ⊢
  have hl : lv_has ls 2 [(0, .ref (ad 4)), (1, .int a1)] := hl
  refine lv_aload_n hx hb d_Search_metresTo_0 rfl (lv_at hl 0 rfl) ?_
  refine lv_iload_n hx hb d_Search_metresTo_1 rfl (lv_at hl 1 rfl) ?_
  refine xv (As := [.int a1]) (rest := []) (C := "PlanRows$Search") ⟨hx, hb, hml, hown, hts⟩ (c_Search_isReached l dC dI cI cZ ad x hI a1) (cw_Search_74 hts rfl rfl ⟨Nat.le_of_ble_eq_true rfl, Nat.le_of_ble_eq_true rfl⟩) hK hN hP 4 rfl rfl rfl rfl hl.1 rfl (Nat.le_of_ble_eq_true rfl) d_Search_metresTo_2 ⟨Nat.zero_le _, Nat.zero_le _⟩ ?_
  refine lv_if_eq (tgt := 20) hx hb d_Search_metresTo_5 (by decide) (fun c_1 => ?_) (fun c_1 => ?_)
  · refine lv_iconst (v := (-1)) hx hb d_Search_metresTo_20 (by decide) ?_
    exact W.toX (W.iret (v := (-1)) hx hb hr (fun t ht hW => ⟨by rw [show f_Search_metresTo x a1 = (-1) from by unfold f_Search_metresTo; rw [if_pos c_1]], ht⟩) (fun q hq => by cases hq) d_Search_metresTo_21)
  · refine lv_aload_n hx hb d_Search_metresTo_8 rfl (lv_at hl 0 rfl) ?_
    refine va_get (D := (dC, dI)) (ci := 6) (v := .ref (ad 17)) (C := R_Search) (T := F_Search) (N := 4) hx hb hbw in_Search hown hK hP 4 rfl rfl 3 (by decide) (hbw _ w_98) (fun _ h9 => h9) rfl d_Search_metresTo_9 ?_
    refine lv_iload_n hx hb d_Search_metresTo_12 rfl (lv_at hl 1 rfl) ?_
    refine va_iald hx hb hK hP 17 0 rfl rfl (ix_reached hI c_1) d_Search_metresTo_13 ?_
    refine lv_bipush (v := 64) hx hb d_Search_metresTo_14 (by decide) ?_
    refine lv_idiv hx hb d_Search_metresTo_16 (by decide) ?_
    refine lv_goto (tgt := 21) hx hb d_Search_metresTo_17 (by decide) ?_
    exact W.toX (W.iret (v := ((q_co x) a1.toNatClampNeg) / 64) hx hb hr (fun t ht hW => ⟨by rw [show f_Search_metresTo x a1 = ((q_co x) a1.toNatClampNeg) / 64 from by unfold f_Search_metresTo; rw [if_neg c_1]], ht⟩) (fun q hq => by cases hq) d_Search_metresTo_21)
def f_Search_stairsTo (x : ST) (a1 : Int32) : Int32 := if (f_Search_isReached x a1) = 0 then 0 else ((q_co x) a1.toNatClampNeg) - ((q_co x) a1.toNatClampNeg) / 64 * 64
set_option maxHeartbeats 4000000 in
set_option maxRecDepth 100000 in
theorem c_Search_stairsTo (l : Launch) (dC : Nat → ClassId) (dI : Nat → Nat → Nat) (cI cZ : ClassId) (ad : Nat → Nat) (x : ST) (hI : CIn x) (a1 : Int32) : MX l y_Search_stairsTo (Cond.code y_Search_stairsTo b_Search_stairsTo 2 (some .int) :: BW) { frames := 2, cells := 0, slots := 0, locals := 42 } (PC (dC, dI) [(cI, .int), (cZ, .boolean)] (wC cI cZ ad x) [.ref (ad 4), .int a1]) (PQ (some (.int (f_Search_stairsTo x a1)))) 0 0 (fun _ => False) := by
  refine MX.ofW (cc := b_Search_stairsTo) (maxL := 2) (ret := (some .int)) (by decide) rfl ?_
  intro p e s m args below meth c s₁ B hml hex hv
  obtain ⟨rfl, hP, hK, hN⟩ := hv
  have hx := B.exec
  have hb := B.bytes
  have hr := B.returns
  have hts := atoms_spec (ws := Cond.code y_Search_stairsTo b_Search_stairsTo 2 (some .int) :: BW) B.pre
  have hbw : ∀ w ∈ BW, w.before ([.ref (ad 4), .int a1]).toArray s = true := fun w h => hts w (List.mem_cons_of_mem _ h)
  have hown : s.vm.findClass "PlanRows$Search" = some m.cls := findClass_of_methodNamed B.named
  have hlocks := B.notSynchronized
  have hl := lv_entry ([.ref (ad 4), .int a1]) (n := 2) (Nat.le_of_ble_eq_true rfl)
  rw [lg_entry_eq]
  generalize (lg_sl ([.ref (ad 4), .int a1]) ++ List.replicate (2 - (lg_sl ([.ref (ad 4), .int a1])).length) Slot.unset).toArray = ls at hl ⊢
  have hl : lv_has ls 2 [(0, .ref (ad 4)), (1, .int a1)] := hl
  refine lv_aload_n hx hb d_Search_stairsTo_0 rfl (lv_at hl 0 rfl) ?_
  refine lv_iload_n hx hb d_Search_stairsTo_1 rfl (lv_at hl 1 rfl) ?_
  refine xv (As := [.int a1]) (rest := []) (C := "PlanRows$Search") ⟨hx, hb, hml, hown, hts⟩ (c_Search_isReached l dC dI cI cZ ad x hI a1) (cw_Search_74 hts rfl rfl ⟨Nat.le_of_ble_eq_true rfl, Nat.le_of_ble_eq_true rfl⟩) hK hN hP 4 rfl rfl rfl rfl hl.1 rfl (Nat.le_of_ble_eq_true rfl) d_Search_stairsTo_2 ⟨Nat.zero_le _, Nat.zero_le _⟩ ?_
  refine lv_if_eq (tgt := 20) hx hb d_Search_stairsTo_5 (by decide) (fun c_1 => ?_) (fun c_1 => ?_)
  · refine lv_iconst (v := 0) hx hb d_Search_stairsTo_20 (by decide) ?_
    exact W.toX (W.iret (v := 0) hx hb hr (fun t ht hW => ⟨by rw [show f_Search_stairsTo x a1 = 0 from by unfold f_Search_stairsTo; rw [if_pos c_1]], ht⟩) (fun q hq => by cases hq) d_Search_stairsTo_21)
  · refine lv_aload_n hx hb d_Search_stairsTo_8 rfl (lv_at hl 0 rfl) ?_
    refine va_get (D := (dC, dI)) (ci := 6) (v := .ref (ad 17)) (C := R_Search) (T := F_Search) (N := 4) hx hb hbw in_Search hown hK hP 4 rfl rfl 3 (by decide) (hbw _ w_98) (fun _ h9 => h9) rfl d_Search_stairsTo_9 ?_
    refine lv_iload_n hx hb d_Search_stairsTo_12 rfl (lv_at hl 1 rfl) ?_
    refine va_iald hx hb hK hP 17 0 rfl rfl (ix_reached hI c_1) d_Search_stairsTo_13 ?_
    refine lv_bipush (v := 64) hx hb d_Search_stairsTo_14 (by decide) ?_
    refine lv_irem hx hb d_Search_stairsTo_16 (by decide) ?_
    refine lv_goto (tgt := 21) hx hb d_Search_stairsTo_17 (by decide) ?_
    exact W.toX (W.iret (v := ((q_co x) a1.toNatClampNeg) - ((q_co x) a1.toNatClampNeg) / 64 * 64) hx hb hr (fun t ht hW => ⟨by rw [show f_Search_stairsTo x a1 = ((q_co x) a1.toNatClampNeg) - ((q_co x) a1.toNatClampNeg) / 64 * 64 from by unfold f_Search_stairsTo; rw [if_neg c_1]], ht⟩) (fun q hq => by cases hq) d_Search_stairsTo_21)
