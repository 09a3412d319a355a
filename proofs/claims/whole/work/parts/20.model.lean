/-- the reference's sizes and numbers are within its rows -/
def RIn (x : RT) : Prop := (0 ≤ (q_m_rooms x).toInt ∧ (q_m_rooms x).toInt ≤ 40) ∧ (0 ≤ (q_m_doors x).toInt ∧ (q_m_doors x).toInt ≤ 80) ∧ (0 ≤ (q_m_detectors x).toInt ∧ (q_m_detectors x).toInt ≤ 100) ∧ (0 ≤ (q_m_rows x).toInt ∧ (q_m_rows x).toInt ≤ 60) ∧ (0 ≤ (q_m_windows x).toInt ∧ (q_m_windows x).toInt ≤ 30) ∧ (0 ≤ (q_m_steps x).toInt ∧ (q_m_steps x).toInt ≤ 40) ∧
  (∀ j : Nat, (j : Int) < (q_m_doors x).toInt → (0 ≤ (q_m_from x j).toInt ∧ (q_m_from x j).toInt < (q_m_rooms x).toInt) ∧ (0 ≤ (q_m_to x j).toInt ∧ (q_m_to x j).toInt < (q_m_rooms x).toInt) ∧ (0 ≤ (q_m_lock x j).toInt ∧ (q_m_lock x j).toInt ≤ 30)) ∧
  (∀ j : Nat, (j : Int) < (q_m_rows x).toInt → 0 ≤ (q_m_rowRoom x j).toInt ∧ (q_m_rowRoom x j).toInt < (q_m_rooms x).toInt)
def f_Mod_thrown (x : RT)  : Int32 := q_m_thrown x
set_option maxHeartbeats 400000 in
set_option maxRecDepth 100000 in
theorem c_Mod_thrown (l : Launch) (dC : Nat → ClassId) (dI : Nat → Nat → Nat) (cI cZ : ClassId) (ad : Nat → Nat) (x : RT) (hI : RIn x) : MX l y_Mod_thrown (Cond.code y_Mod_thrown b_Mod_thrown 1 (some .int) :: BW) { frames := 0, cells := 0, slots := 0, locals := 0 } (PC (dC, dI) [(cI, .int), (cZ, .boolean)] (wR cI cZ ad x) [.ref (ad 0)]) (PQ (some (.int (f_Mod_thrown x)))) 0 0 (fun _ => False) := by
  refine MX.ofW (cc := b_Mod_thrown) (maxL := 1) (ret := (some .int)) (by decide) rfl ?_
  intro p e s m args below meth c s₁ B hml hex hv
  obtain ⟨rfl, hP, hK, hN⟩ := hv
  have hx := B.exec
  have hb := B.bytes
  have hr := B.returns
  have hts := atoms_spec (ws := Cond.code y_Mod_thrown b_Mod_thrown 1 (some .int) :: BW) B.pre
  have hbw : ∀ w ∈ BW, w.before ([.ref (ad 0)]).toArray s = true := fun w h => hts w (List.mem_cons_of_mem _ h)
  have hown : s.vm.findClass "PlanRowsModel" = some m.cls := findClass_of_methodNamed B.named
  have hlocks := B.notSynchronized
  have hl := lv_entry ([.ref (ad 0)]) (n := 1) (Nat.le_of_ble_eq_true rfl)
  rw [lg_entry_eq]
  generalize (lg_sl ([.ref (ad 0)]) ++ List.replicate (1 - (lg_sl ([.ref (ad 0)])).length) Slot.unset).toArray = ls at hl ⊢
  have hl : lv_has ls 1 [(0, .ref (ad 0))] := hl
  refine lv_aload_n hx hb d_Mod_thrown_0 rfl (lv_at hl 0 rfl) ?_
  refine va_get (D := (dC, dI)) (ci := 9) (v := .int (q_m_thrown x)) (C := R_Mod) (T := F_Mod) (N := 31) hx hb hbw in_Mod hown hK hP 0 rfl rfl 0 (by decide) (hbw _ w_709) (fun _ h9 => h9) rfl d_Mod_thrown_1 ?_
  exact W.toX (W.iret (v := q_m_thrown x) hx hb hr (fun t ht hW => ⟨by rw [show f_Mod_thrown x = q_m_thrown x from rfl], ht⟩) (fun q hq => by cases hq) d_Mod_thrown_4)
def f_Mod_in (a1 a2 a3 : Int32) : Int32 := if a1 < a2 then 0 else (if a3 < a1 then 0 else 1)
set_option maxHeartbeats 400000 in
set_option maxRecDepth 100000 in
theorem c_Mod_in (l : Launch) (dC : Nat → ClassId) (dI : Nat → Nat → Nat) (tys : List (ClassId × FieldType)) (ww : va_W) (a1 a2 a3 : Int32) : MX l y_Mod_in (Cond.code y_Mod_in b_Mod_in 3 (some .boolean) :: BW) { frames := 0, cells := 0, slots := 0, locals := 0 } (PC (dC, dI) tys ww [.int a1, .int a2, .int a3]) (PQ (some (.int (f_Mod_in a1 a2 a3)))) 0 0 (fun _ => False) := by
  refine MX.ofW (cc := b_Mod_in) (maxL := 3) (ret := (some .boolean)) (by decide) rfl ?_
  intro p e s m args below meth c s₁ B hml hex hv
  obtain ⟨rfl, hP, hK, hN⟩ := hv
  have hx := B.exec
  have hb := B.bytes
  have hr := B.returns
  have hts := atoms_spec (ws := Cond.code y_Mod_in b_Mod_in 3 (some .boolean) :: BW) B.pre
  have hbw : ∀ w ∈ BW, w.before ([.int a1, .int a2, .int a3]).toArray s = true := fun w h => hts w (List.mem_cons_of_mem _ h)
  have hown : s.vm.findClass "PlanRowsModel" = some m.cls := findClass_of_methodNamed B.named
  have hlocks := B.notSynchronized
  have hl := lv_entry ([.int a1, .int a2, .int a3]) (n := 3) (Nat.le_of_ble_eq_true rfl)
  rw [lg_entry_eq]
  generalize (lg_sl ([.int a1, .int a2, .int a3]) ++ List.replicate (3 - (lg_sl ([.int a1, .int a2, .int a3])).length) Slot.unset).toArray = ls at hl ⊢
  have hl : lv_has ls 3 [(0, .int a1), (1, .int a2), (2, .int a3)] := hl
  refine lv_iload_n hx hb d_Mod_in_0 rfl (lv_at hl 0 rfl) ?_
  refine lv_iload_n hx hb d_Mod_in_1 rfl (lv_at hl 1 rfl) ?_
  refine lv_icmp_lt (tgt := 14) hx hb d_Mod_in_2 (by decide) (fun c_1 => ?_) (fun c_1 => ?_)
  · refine lv_iconst (v := 0) hx hb d_Mod_in_14 (by decide) ?_
    exact W.toX (W.zret (v := 0) (ty := .boolean) hx hb hr (by rfl) (fun t ht hW => ⟨by rw [show f_Mod_in a1 a2 a3 = 0 from by unfold f_Mod_in; rw [if_pos c_1]], ht⟩) (fun q hq => by cases hq) d_Mod_in_15)
  · refine lv_iload_n hx hb d_Mod_in_5 rfl (lv_at hl 0 rfl) ?_
    refine lv_iload_n hx hb d_Mod_in_6 rfl (lv_at hl 2 rfl) ?_
    refine lv_icmp_gt (tgt := 14) hx hb d_Mod_in_7 (by decide) (fun c_2 => ?_) (fun c_2 => ?_)
    · refine lv_iconst (v := 0) hx hb d_Mod_in_14 (by decide) ?_
      exact W.toX (W.zret (v := 0) (ty := .boolean) hx hb hr (by rfl) (fun t ht hW => ⟨by rw [show f_Mod_in a1 a2 a3 = 0 from by unfold f_Mod_in; rw [if_neg c_1, if_pos c_2]], ht⟩) (fun q hq => by cases hq) d_Mod_in_15)
    · refine lv_iconst (v := 1) hx hb d_Mod_in_10 (by decide) ?_
      refine lv_goto (tgt := 15) hx hb d_Mod_in_11 (by decide) ?_
      exact W.toX (W.zret (v := 1) (ty := .boolean) hx hb hr (by rfl) (fun t ht hW => ⟨by rw [show f_Mod_in a1 a2 a3 = 1 from by unfold f_Mod_in; rw [if_neg c_1, if_neg c_2]], ht⟩) (fun q hq => by cases hq) d_Mod_in_15)
theorem z_in (a b c : Int32) : f_Mod_in a b c = 0 ∨ f_Mod_in a b c = 1 := by
  unfold f_Mod_in
  repeat' split
  all_goals first | exact Or.inl rfl | exact Or.inr rfl
def f_Mod_isRoom (x : RT) (a1 : Int32) : Int32 := f_Mod_in a1 0 ((q_m_rooms x) - 1)
set_option maxHeartbeats 400000 in
set_option maxRecDepth 100000 in
theorem c_Mod_isRoom (l : Launch) (dC : Nat → ClassId) (dI : Nat → Nat → Nat) (cI cZ : ClassId) (ad : Nat → Nat) (x : RT) (hI : RIn x) (a1 : Int32) : MX l y_Mod_isRoom (Cond.code y_Mod_isRoom b_Mod_isRoom 2 (some .boolean) :: BW) { frames := 1, cells := 0, slots := 0, locals := 22 } (PC (dC, dI) [(cI, .int), (cZ, .boolean)] (wR cI cZ ad x) [.ref (ad 0), .int a1]) (PQ (some (.int (f_Mod_isRoom x a1)))) 0 0 (fun _ => False) := by
  refine MX.ofW (cc := b_Mod_isRoom) (maxL := 2) (ret := (some .boolean)) (by decide) rfl ?_
  intro p e s m args below meth c s₁ B hml hex hv
  obtain ⟨rfl, hP, hK, hN⟩ := hv
  have hx := B.exec
  have hb := B.bytes
  have hr := B.returns
  have hts := atoms_spec (ws := Cond.code y_Mod_isRoom b_Mod_isRoom 2 (some .boolean) :: BW) B.pre
  have hbw : ∀ w ∈ BW, w.before ([.ref (ad 0), .int a1]).toArray s = true := fun w h => hts w (List.mem_cons_of_mem _ h)
  have hown : s.vm.findClass "PlanRowsModel" = some m.cls := findClass_of_methodNamed B.named
  have hlocks := B.notSynchronized
  have hl := lv_entry ([.ref (ad 0), .int a1]) (n := 2) (Nat.le_of_ble_eq_true rfl)
  rw [lg_entry_eq]
  generalize (lg_sl ([.ref (ad 0), .int a1]) ++ List.replicate (2 - (lg_sl ([.ref (ad 0), .int a1])).length) Slot.unset).toArray = ls at hl ⊢
  have hl : lv_has ls 2 [(0, .ref (ad 0)), (1, .int a1)] := hl
  refine lv_iload_n hx hb d_Mod_isRoom_0 rfl (lv_at hl 1 rfl) ?_
  refine lv_iconst (v := 0) hx hb d_Mod_isRoom_1 (by decide) ?_
  refine lv_aload_n hx hb d_Mod_isRoom_2 rfl (lv_at hl 0 rfl) ?_
  refine va_get (D := (dC, dI)) (ci := 9) (v := .int (q_m_rooms x)) (C := R_Mod) (T := F_Mod) (N := 31) hx hb hbw in_Mod hown hK hP 0 rfl rfl 1 (by decide) (hbw _ w_710) (fun _ h9 => h9) rfl d_Mod_isRoom_3 ?_
  refine lv_iconst (v := 1) hx hb d_Mod_isRoom_6 (by decide) ?_
  refine lv_isub hx hb d_Mod_isRoom_7 ?_
  refine xs (As := [.int a1, .int 0, .int ((q_m_rooms x) - 1)]) (rest := []) ⟨hx, hb, hml, hown, hts⟩ (c_Mod_in l dC dI _ _ a1 0 ((q_m_rooms x) - 1)) (cw_Mod_84 hts rfl rfl ⟨Nat.le_of_ble_eq_true rfl, Nat.le_of_ble_eq_true rfl⟩) hK hN hP rfl hl.1 rfl (Nat.le_of_ble_eq_true rfl) d_Mod_isRoom_8 ⟨Nat.zero_le _, Nat.zero_le _⟩ ?_
  exact W.toX (W.zret (v := f_Mod_in a1 0 ((q_m_rooms x) - 1)) (ty := .boolean) hx hb hr (by rcases z_in a1 0 ((q_m_rooms x) - 1) with h | h <;> rw [h] <;> rfl) (fun t ht hW => ⟨by rw [show f_Mod_isRoom x a1 = f_Mod_in a1 0 ((q_m_rooms x) - 1) from rfl], ht⟩) (fun q hq => by cases hq) d_Mod_isRoom_11)
def f_Mod_isDetector (a1 a2 : Int32) : Int32 := if (f_Mod_in a1 1 9) = 0 then 0 else (if (f_Mod_in a2 1 99) = 0 then 0 else 1)
set_option maxHeartbeats 400000 in
set_option maxRecDepth 100000 in
theorem c_Mod_isDetector (l : Launch) (dC : Nat → ClassId) (dI : Nat → Nat → Nat) (tys : List (ClassId × FieldType)) (ww : va_W) (a1 a2 : Int32) : MX l y_Mod_isDetector (Cond.code y_Mod_isDetector b_Mod_isDetector 2 (some .boolean) :: BW) { frames := 1, cells := 0, slots := 0, locals := 22 } (PC (dC, dI) tys ww [.int a1, .int a2]) (PQ (some (.int (f_Mod_isDetector a1 a2)))) 0 0 (fun _ => False) := by
  refine MX.ofW (cc := b_Mod_isDetector) (maxL := 2) (ret := (some .boolean)) (by decide) rfl ?_
  intro p e s m args below meth c s₁ B hml hex hv
  obtain ⟨rfl, hP, hK, hN⟩ := hv
  have hx := B.exec
  have hb := B.bytes
  have hr := B.returns
  have hts := atoms_spec (ws := Cond.code y_Mod_isDetector b_Mod_isDetector 2 (some .boolean) :: BW) B.pre
  have hbw : ∀ w ∈ BW, w.before ([.int a1, .int a2]).toArray s = true := fun w h => hts w (List.mem_cons_of_mem _ h)
  have hown : s.vm.findClass "PlanRowsModel" = some m.cls := findClass_of_methodNamed B.named
  have hlocks := B.notSynchronized
  have hl := lv_entry ([.int a1, .int a2]) (n := 2) (Nat.le_of_ble_eq_true rfl)
  rw [lg_entry_eq]
  generalize (lg_sl ([.int a1, .int a2]) ++ List.replicate (2 - (lg_sl ([.int a1, .int a2])).length) Slot.unset).toArray = ls at hl ⊢
  have hl : lv_has ls 2 [(0, .int a1), (1, .int a2)] := hl
  refine lv_iload_n hx hb d_Mod_isDetector_0 rfl (lv_at hl 0 rfl) ?_
  refine lv_iconst (v := 1) hx hb d_Mod_isDetector_1 (by decide) ?_
  refine lv_bipush (v := 9) hx hb d_Mod_isDetector_2 (by decide) ?_
  refine xs (As := [.int a1, .int 1, .int 9]) (rest := []) ⟨hx, hb, hml, hown, hts⟩ (c_Mod_in l dC dI _ _ a1 1 9) (cw_Mod_84 hts rfl rfl ⟨Nat.le_of_ble_eq_true rfl, Nat.le_of_ble_eq_true rfl⟩) hK hN hP rfl hl.1 rfl (Nat.le_of_ble_eq_true rfl) d_Mod_isDetector_4 ⟨Nat.zero_le _, Nat.zero_le _⟩ ?_
  refine lv_if_eq (tgt := 24) hx hb d_Mod_isDetector_7 (by decide) (fun c_1 => ?_) (fun c_1 => ?_)
  · refine lv_iconst (v := 0) hx hb d_Mod_isDetector_24 (by decide) ?_
    exact W.toX (W.zret (v := 0) (ty := .boolean) hx hb hr (by rfl) (fun t ht hW => ⟨by rw [show f_Mod_isDetector a1 a2 = 0 from by unfold f_Mod_isDetector; rw [if_pos c_1]], ht⟩) (fun q hq => by cases hq) d_Mod_isDetector_25)
  · refine lv_iload_n hx hb d_Mod_isDetector_10 rfl (lv_at hl 1 rfl) ?_
    refine lv_iconst (v := 1) hx hb d_Mod_isDetector_11 (by decide) ?_
    refine lv_bipush (v := 99) hx hb d_Mod_isDetector_12 (by decide) ?_
    refine xs (As := [.int a2, .int 1, .int 99]) (rest := []) ⟨hx, hb, hml, hown, hts⟩ (c_Mod_in l dC dI _ _ a2 1 99) (cw_Mod_84 hts rfl rfl ⟨Nat.le_of_ble_eq_true rfl, Nat.le_of_ble_eq_true rfl⟩) hK hN hP rfl hl.1 rfl (Nat.le_of_ble_eq_true rfl) d_Mod_isDetector_14 ⟨Nat.zero_le _, Nat.zero_le _⟩ ?_
    refine lv_if_eq (tgt := 24) hx hb d_Mod_isDetector_17 (by decide) (fun c_2 => ?_) (fun c_2 => ?_)
    · refine lv_iconst (v := 0) hx hb d_Mod_isDetector_24 (by decide) ?_
      exact W.toX (W.zret (v := 0) (ty := .boolean) hx hb hr (by rfl) (fun t ht hW => ⟨by rw [show f_Mod_isDetector a1 a2 = 0 from by unfold f_Mod_isDetector; rw [if_neg c_1, if_pos c_2]], ht⟩) (fun q hq => by cases hq) d_Mod_isDetector_25)
    · refine lv_iconst (v := 1) hx hb d_Mod_isDetector_20 (by decide) ?_
      refine lv_goto (tgt := 25) hx hb d_Mod_isDetector_21 (by decide) ?_
      exact W.toX (W.zret (v := 1) (ty := .boolean) hx hb hr (by rfl) (fun t ht hW => ⟨by rw [show f_Mod_isDetector a1 a2 = 1 from by unfold f_Mod_isDetector; rw [if_neg c_1, if_neg c_2]], ht⟩) (fun q hq => by cases hq) d_Mod_isDetector_25)
def f_Mod_isHour (a1 : Int32) : Int32 := f_Mod_in a1 0 23
set_option maxHeartbeats 400000 in
set_option maxRecDepth 100000 in
theorem c_Mod_isHour (l : Launch) (dC : Nat → ClassId) (dI : Nat → Nat → Nat) (tys : List (ClassId × FieldType)) (ww : va_W) (a1 : Int32) : MX l y_Mod_isHour (Cond.code y_Mod_isHour b_Mod_isHour 1 (some .boolean) :: BW) { frames := 1, cells := 0, slots := 0, locals := 22 } (PC (dC, dI) tys ww [.int a1]) (PQ (some (.int (f_Mod_isHour a1)))) 0 0 (fun _ => False) := by
  refine MX.ofW (cc := b_Mod_isHour) (maxL := 1) (ret := (some .boolean)) (by decide) rfl ?_
  intro p e s m args below meth c s₁ B hml hex hv
  obtain ⟨rfl, hP, hK, hN⟩ := hv
  have hx := B.exec
  have hb := B.bytes
  have hr := B.returns
  have hts := atoms_spec (ws := Cond.code y_Mod_isHour b_Mod_isHour 1 (some .boolean) :: BW) B.pre
  have hbw : ∀ w ∈ BW, w.before ([.int a1]).toArray s = true := fun w h => hts w (List.mem_cons_of_mem _ h)
  have hown : s.vm.findClass "PlanRowsModel" = some m.cls := findClass_of_methodNamed B.named
  have hlocks := B.notSynchronized
  have hl := lv_entry ([.int a1]) (n := 1) (Nat.le_of_ble_eq_true rfl)
  rw [lg_entry_eq]
  generalize (lg_sl ([.int a1]) ++ List.replicate (1 - (lg_sl ([.int a1])).length) Slot.unset).toArray = ls at hl ⊢
  have hl : lv_has ls 1 [(0, .int a1)] := hl
  refine lv_iload_n hx hb d_Mod_isHour_0 rfl (lv_at hl 0 rfl) ?_
  refine lv_iconst (v := 0) hx hb d_Mod_isHour_1 (by decide) ?_
  refine lv_bipush (v := 23) hx hb d_Mod_isHour_2 (by decide) ?_
  refine xs (As := [.int a1, .int 0, .int 23]) (rest := []) ⟨hx, hb, hml, hown, hts⟩ (c_Mod_in l dC dI _ _ a1 0 23) (cw_Mod_84 hts rfl rfl ⟨Nat.le_of_ble_eq_true rfl, Nat.le_of_ble_eq_true rfl⟩) hK hN hP rfl hl.1 rfl (Nat.le_of_ble_eq_true rfl) d_Mod_isHour_4 ⟨Nat.zero_le _, Nat.zero_le _⟩ ?_
  exact W.toX (W.zret (v := f_Mod_in a1 0 23) (ty := .boolean) hx hb hr (by rcases z_in a1 0 23 with h | h <;> rw [h] <;> rfl) (fun t ht hW => ⟨by rw [show f_Mod_isHour a1 = f_Mod_in a1 0 23 from rfl], ht⟩) (fun q hq => by cases hq) d_Mod_isHour_7)
def f_Mod_isPoint (a1 a2 a3 : Int32) : Int32 := if (f_Mod_in a1 (-200000) 200000) = 0 then 0 else (if (f_Mod_in a2 (-200000) 200000) = 0 then 0 else (if (f_Mod_in a3 (-200000) 200000) = 0 then 0 else 1))
set_option maxHeartbeats 400000 in
set_option maxRecDepth 100000 in
theorem c_Mod_isPoint (l : Launch) (dC : Nat → ClassId) (dI : Nat → Nat → Nat) (tys : List (ClassId × FieldType)) (ww : va_W) (a1 a2 a3 : Int32) : MX l y_Mod_isPoint (Cond.code y_Mod_isPoint b_Mod_isPoint 3 (some .boolean) :: BW) { frames := 1, cells := 0, slots := 0, locals := 22 } (PC (dC, dI) tys ww [.int a1, .int a2, .int a3]) (PQ (some (.int (f_Mod_isPoint a1 a2 a3)))) 0 0 (fun _ => False) := by
  refine MX.ofW (cc := b_Mod_isPoint) (maxL := 3) (ret := (some .boolean)) (by decide) rfl ?_
  intro p e s m args below meth c s₁ B hml hex hv
  obtain ⟨rfl, hP, hK, hN⟩ := hv
  have hx := B.exec
  have hb := B.bytes
  have hr := B.returns
  have hts := atoms_spec (ws := Cond.code y_Mod_isPoint b_Mod_isPoint 3 (some .boolean) :: BW) B.pre
  have hbw : ∀ w ∈ BW, w.before ([.int a1, .int a2, .int a3]).toArray s = true := fun w h => hts w (List.mem_cons_of_mem _ h)
  have hown : s.vm.findClass "PlanRowsModel" = some m.cls := findClass_of_methodNamed B.named
  have hlocks := B.notSynchronized
  have hl := lv_entry ([.int a1, .int a2, .int a3]) (n := 3) (Nat.le_of_ble_eq_true rfl)
  rw [lg_entry_eq]
  generalize (lg_sl ([.int a1, .int a2, .int a3]) ++ List.replicate (3 - (lg_sl ([.int a1, .int a2, .int a3])).length) Slot.unset).toArray = ls at hl ⊢
  have hl : lv_has ls 3 [(0, .int a1), (1, .int a2), (2, .int a3)] := hl
  refine lv_iload_n hx hb d_Mod_isPoint_0 rfl (lv_at hl 0 rfl) ?_
  refine lv_ldc (v := (-200000)) hx hb hown (hbw _ w_912) d_Mod_isPoint_1 ?_
  refine lv_ldc (v := 200000) hx hb hown (hbw _ w_913) d_Mod_isPoint_3 ?_
  refine xs (As := [.int a1, .int (-200000), .int 200000]) (rest := []) ⟨hx, hb, hml, hown, hts⟩ (c_Mod_in l dC dI _ _ a1 (-200000) 200000) (cw_Mod_84 hts rfl rfl ⟨Nat.le_of_ble_eq_true rfl, Nat.le_of_ble_eq_true rfl⟩) hK hN hP rfl hl.1 rfl (Nat.le_of_ble_eq_true rfl) d_Mod_isPoint_5 ⟨Nat.zero_le _, Nat.zero_le _⟩ ?_
  refine lv_if_eq (tgt := 37) hx hb d_Mod_isPoint_8 (by decide) (fun c_1 => ?_) (fun c_1 => ?_)
  · refine lv_iconst (v := 0) hx hb d_Mod_isPoint_37 (by decide) ?_
    exact W.toX (W.zret (v := 0) (ty := .boolean) hx hb hr (by rfl) (fun t ht hW => ⟨by rw [show f_Mod_isPoint a1 a2 a3 = 0 from by unfold f_Mod_isPoint; rw [if_pos c_1]], ht⟩) (fun q hq => by cases hq) d_Mod_isPoint_38)
  · refine lv_iload_n hx hb d_Mod_isPoint_11 rfl (lv_at hl 1 rfl) ?_
    refine lv_ldc (v := (-200000)) hx hb hown (hbw _ w_912) d_Mod_isPoint_12 ?_
    refine lv_ldc (v := 200000) hx hb hown (hbw _ w_913) d_Mod_isPoint_14 ?_
    refine xs (As := [.int a2, .int (-200000), .int 200000]) (rest := []) ⟨hx, hb, hml, hown, hts⟩ (c_Mod_in l dC dI _ _ a2 (-200000) 200000) (cw_Mod_84 hts rfl rfl ⟨Nat.le_of_ble_eq_true rfl, Nat.le_of_ble_eq_true rfl⟩) hK hN hP rfl hl.1 rfl (Nat.le_of_ble_eq_true rfl) d_Mod_isPoint_16 ⟨Nat.zero_le _, Nat.zero_le _⟩ ?_
    refine lv_if_eq (tgt := 37) hx hb d_Mod_isPoint_19 (by decide) (fun c_2 => ?_) (fun c_2 => ?_)
    · refine lv_iconst (v := 0) hx hb d_Mod_isPoint_37 (by decide) ?_
      exact W.toX (W.zret (v := 0) (ty := .boolean) hx hb hr (by rfl) (fun t ht hW => ⟨by rw [show f_Mod_isPoint a1 a2 a3 = 0 from by unfold f_Mod_isPoint; rw [if_neg c_1, if_pos c_2]], ht⟩) (fun q hq => by cases hq) d_Mod_isPoint_38)
    · refine lv_iload_n hx hb d_Mod_isPoint_22 rfl (lv_at hl 2 rfl) ?_
      refine lv_ldc (v := (-200000)) hx hb hown (hbw _ w_912) d_Mod_isPoint_23 ?_
      refine lv_ldc (v := 200000) hx hb hown (hbw _ w_913) d_Mod_isPoint_25 ?_
      refine xs (As := [.int a3, .int (-200000), .int 200000]) (rest := []) ⟨hx, hb, hml, hown, hts⟩ (c_Mod_in l dC dI _ _ a3 (-200000) 200000) (cw_Mod_84 hts rfl rfl ⟨Nat.le_of_ble_eq_true rfl, Nat.le_of_ble_eq_true rfl⟩) hK hN hP rfl hl.1 rfl (Nat.le_of_ble_eq_true rfl) d_Mod_isPoint_27 ⟨Nat.zero_le _, Nat.zero_le _⟩ ?_
      refine lv_if_eq (tgt := 37) hx hb d_Mod_isPoint_30 (by decide) (fun c_3 => ?_) (fun c_3 => ?_)
      · refine lv_iconst (v := 0) hx hb d_Mod_isPoint_37 (by decide) ?_
        exact W.toX (W.zret (v := 0) (ty := .boolean) hx hb hr (by rfl) (fun t ht hW => ⟨by rw [show f_Mod_isPoint a1 a2 a3 = 0 from by unfold f_Mod_isPoint; rw [if_neg c_1, if_neg c_2, if_pos c_3]], ht⟩) (fun q hq => by cases hq) d_Mod_isPoint_38)
      · refine lv_iconst (v := 1) hx hb d_Mod_isPoint_33 (by decide) ?_
        refine lv_goto (tgt := 38) hx hb d_Mod_isPoint_34 (by decide) ?_
        exact W.toX (W.zret (v := 1) (ty := .boolean) hx hb hr (by rfl) (fun t ht hW => ⟨by rw [show f_Mod_isPoint a1 a2 a3 = 1 from by unfold f_Mod_isPoint; rw [if_neg c_1, if_neg c_2, if_neg c_3]], ht⟩) (fun q hq => by cases hq) d_Mod_isPoint_38)
def g_Mod_throwing (x : RT) (a1 a2 a3 a4 : Int32) : Int32 × RT := if (q_m_thrown (s_m_thrown x (if a1 = 0 then (if a2 = 0 then (if a3 = 0 then (if a4 = 0 then 0 else 4) else 3) else 2) else 1 : Int32))) ≤ 0 then (0, s_m_thrown x (if a1 = 0 then (if a2 = 0 then (if a3 = 0 then (if a4 = 0 then 0 else 4) else 3) else 2) else 1 : Int32)) else (1, s_m_thrown x (if a1 = 0 then (if a2 = 0 then (if a3 = 0 then (if a4 = 0 then 0 else 4) else 3) else 2) else 1 : Int32))
set_option maxHeartbeats 400000 in
set_option maxRecDepth 100000 in
theorem u_Mod_throwing (l : Launch) (dC : Nat → ClassId) (dI : Nat → Nat → Nat) (cI cZ : ClassId) (ad : Nat → Nat) (hj : aInj 21 ad) (x : RT) (hI : RIn x) (sz : Nat) (a1 a2 a3 a4 : Int32) : MX l y_Mod_throwing (Cond.code y_Mod_throwing b_Mod_throwing 5 (some .boolean) :: BW) { frames := 0, cells := 0, slots := 0, locals := 0 } (PCZ sz (dC, dI) [(cI, .int), (cZ, .boolean)] (wR cI cZ ad x) [.ref (ad 0), .int a1, .int a2, .int a3, .int a4]) (UQ (some (.int (g_Mod_throwing x a1 a2 a3 a4).1)) (WB (dC, dI) [(cI, .int), (cZ, .boolean)] (wR cI cZ ad (g_Mod_throwing x a1 a2 a3 a4).2)) (aC 21 ad sz)) 0 0 (aC 21 ad sz) := by
  refine MX.ofW (cc := b_Mod_throwing) (maxL := 5) (ret := (some .boolean)) (by decide) rfl ?_
  intro p e s m args below meth c s₁ B hml hex hv
  obtain ⟨hsz, rfl, hP, hK, hN⟩ := hv
  subst hsz
  have hx := B.exec
  have hb := B.bytes
  have hr := B.returns
  have hts := atoms_spec (ws := Cond.code y_Mod_throwing b_Mod_throwing 5 (some .boolean) :: BW) B.pre
  have hbw : ∀ w ∈ BW, w.before ([.ref (ad 0), .int a1, .int a2, .int a3, .int a4]).toArray s = true := fun w h => hts w (List.mem_cons_of_mem _ h)
  have hown : s.vm.findClass "PlanRowsModel" = some m.cls := findClass_of_methodNamed B.named
  have hlocks := B.notSynchronized
  have hDx : ∀ z, va_D (aC 21 ad s.heap.size) (wR cI cZ ad z) := fun z => w_D hj (wR_ad cI cZ ad z) _
  have hA : ∀ H : Heap, s.heap.size ≤ H.size → ∀ q, aC 21 ad H.size q → aC 21 ad s.heap.size q := fun H h => aC_le h
  generalize aC 21 ad s.heap.size = A at hDx hA ⊢
  have hD := hDx x
  have hS : va_S A s.heap s.heap [] := va_S.rf
  have hI0 := hI
  have hl := lv_entry ([.ref (ad 0), .int a1, .int a2, .int a3, .int a4]) (n := 5) (Nat.le_of_ble_eq_true rfl)
  rw [lg_entry_eq]
  generalize (lg_sl ([.ref (ad 0), .int a1, .int a2, .int a3, .int a4]) ++ List.replicate (5 - (lg_sl ([.ref (ad 0), .int a1, .int a2, .int a3, .int a4])).length) Slot.unset).toArray = ls at hl ⊢
  obtain ⟨H, hH⟩ : ∃ H, H = s.heap := ⟨_, rfl⟩
  obtain ⟨locs, hlocs⟩ : ∃ locs : List Loc, locs = [] := ⟨_, rfl⟩
  have hP : va_P (dC, dI) clsA (wR cI cZ ad x) H := by rw [hH]; exact hP
  have hS : va_S A s.heap H locs := by rw [hH, hlocs]; exact hS
  rw [← hlocs]
  have hW0 : ∀ (R : Room) (Q : State → Prop) (g : JFrame), W p l e R s m ([.ref (ad 0), .int a1, .int a2, .int a3, .int a4]).toArray below meth c H locs 0 0 Q g → W p l e R s m ([.ref (ad 0), .int a1, .int a2, .int a3, .int a4]).toArray below meth c s.heap locs 0 0 Q g := fun R Q g h => by rw [← hH]; exact h
  refine hW0 _ _ _ ?_
  have hl : lv_has ls 5 [(0, .ref (ad 0)), (1, .int a1), (2, .int a2), (3, .int a3), (4, .int a4)] := hl
  refine lv_aload_n hx hb d_Mod_throwing_0 rfl (lv_at hl 0 rfl) ?_
  refine lv_iload_n hx hb d_Mod_throwing_1 rfl (lv_at hl 1 rfl) ?_
  have jn_1 : W p l e { frames := 0, cells := 0, slots := 0, locals := 0 } s m ([.ref (ad 0), .int a1, .int a2, .int a3, .int a4]).toArray below meth c H locs 0 0 (MQX below (UQ (some (.int (g_Mod_throwing x a1 a2 a3 a4).1)) (WB (dC, dI) [(cI, .int), (cZ, .boolean)] (wR cI cZ ad (g_Mod_throwing x a1 a2 a3 a4).2)) A) ([.ref (ad 0), .int a1, .int a2, .int a3, .int a4]).toArray s 0 0 A) (F0 m 35 ls [.int (if a1 = 0 then (if a2 = 0 then (if a3 = 0 then (if a4 = 0 then 0 else 4) else 3) else 2) else 1 : Int32), .ref (ad 0)]) := by
    refine va_put (D := (dC, dI)) (ci := 9) (v := .int (if a1 = 0 then (if a2 = 0 then (if a3 = 0 then (if a4 = 0 then 0 else 4) else 3) else 2) else 1 : Int32)) (ty := .int) (C := R_Mod) (T := F_Mod) (N := 31) hx hb hbw in_Mod t_Mod t_Mod_ok n_Mod hown hK hP hD hS 0 rfl rfl 0 (by decide) (hbw _ w_709) (fun _ h9 => h9) rfl (by decide +kernel) rfl rfl (Nat.le_of_ble_eq_true rfl) d_Mod_throwing_35 (fun H locs hP hD hS => ?_)
    rw [wR_s_m_thrown] at hP hD
    refine lv_aload_n hx hb d_Mod_throwing_38 rfl (lv_at hl 0 rfl) ?_
    refine va_get (D := (dC, dI)) (ci := 9) (v := .int (q_m_thrown (s_m_thrown x (if a1 = 0 then (if a2 = 0 then (if a3 = 0 then (if a4 = 0 then 0 else 4) else 3) else 2) else 1 : Int32)))) (C := R_Mod) (T := F_Mod) (N := 31) hx hb hbw in_Mod hown hK hP 0 rfl rfl 0 (by decide) (hbw _ w_709) (fun _ h9 => h9) rfl d_Mod_throwing_39 ?_
    refine lv_if_le (tgt := 49) hx hb d_Mod_throwing_42 (by decide) (fun c_6 => ?_) (fun c_6 => ?_)
    · refine lv_iconst (v := 0) hx hb d_Mod_throwing_49 (by decide) ?_
      have hg : g_Mod_throwing x a1 a2 a3 a4 = (0, s_m_thrown x (if a1 = 0 then (if a2 = 0 then (if a3 = 0 then (if a4 = 0 then 0 else 4) else 3) else 2) else 1 : Int32)) := by unfold g_Mod_throwing; rw [if_pos c_6]
      exact W.toX (W.zret (v := 0) (ty := .boolean) hx hb hr (by rfl) (fun t ht hW => ⟨by rw [hg, pr_fst], ⟨by rw [ht, hg, pr_snd]; exact hP, va_K.moved hW.alike hK, hN.warm hW⟩, hS.F ht⟩) hS.2.2 d_Mod_throwing_50)
    · refine lv_iconst (v := 1) hx hb d_Mod_throwing_45 (by decide) ?_
      refine lv_goto (tgt := 50) hx hb d_Mod_throwing_46 (by decide) ?_
      have hg : g_Mod_throwing x a1 a2 a3 a4 = (1, s_m_thrown x (if a1 = 0 then (if a2 = 0 then (if a3 = 0 then (if a4 = 0 then 0 else 4) else 3) else 2) else 1 : Int32)) := by unfold g_Mod_throwing; rw [if_neg c_6]
      exact W.toX (W.zret (v := 1) (ty := .boolean) hx hb hr (by rfl) (fun t ht hW => ⟨by rw [hg, pr_fst], ⟨by rw [ht, hg, pr_snd]; exact hP, va_K.moved hW.alike hK, hN.warm hW⟩, hS.F ht⟩) hS.2.2 d_Mod_throwing_50)
  refine lv_if_eq (tgt := 9) hx hb d_Mod_throwing_2 (by decide) (fun c_2 => ?_) (fun c_2 => ?_)
  · refine lv_iload_n hx hb d_Mod_throwing_9 rfl (lv_at hl 2 rfl) ?_
    refine lv_if_eq (tgt := 17) hx hb d_Mod_throwing_10 (by decide) (fun c_3 => ?_) (fun c_3 => ?_)
    · refine lv_iload_n hx hb d_Mod_throwing_17 rfl (lv_at hl 3 rfl) ?_
      refine lv_if_eq (tgt := 25) hx hb d_Mod_throwing_18 (by decide) (fun c_4 => ?_) (fun c_4 => ?_)
      · refine lv_iload hx hb d_Mod_throwing_25 (lv_at hl 4 rfl) ?_
        refine lv_if_eq (tgt := 34) hx hb d_Mod_throwing_27 (by decide) (fun c_5 => ?_) (fun c_5 => ?_)
        · refine lv_iconst (v := 0) hx hb d_Mod_throwing_34 (by decide) ?_
          rw [show (if a1 = 0 then (if a2 = 0 then (if a3 = 0 then (if a4 = 0 then 0 else 4) else 3) else 2) else 1 : Int32) = 0 from by rw [if_pos c_2, if_pos c_3, if_pos c_4, if_pos c_5]] at jn_1
          exact jn_1
        · refine lv_iconst (v := 4) hx hb d_Mod_throwing_30 (by decide) ?_
          refine lv_goto (tgt := 35) hx hb d_Mod_throwing_31 (by decide) ?_
          rw [show (if a1 = 0 then (if a2 = 0 then (if a3 = 0 then (if a4 = 0 then 0 else 4) else 3) else 2) else 1 : Int32) = 4 from by rw [if_pos c_2, if_pos c_3, if_pos c_4, if_neg c_5]] at jn_1
          exact jn_1
      · refine lv_iconst (v := 3) hx hb d_Mod_throwing_21 (by decide) ?_
        refine lv_goto (tgt := 35) hx hb d_Mod_throwing_22 (by decide) ?_
        rw [show (if a1 = 0 then (if a2 = 0 then (if a3 = 0 then (if a4 = 0 then 0 else 4) else 3) else 2) else 1 : Int32) = 3 from by rw [if_pos c_2, if_pos c_3, if_neg c_4]] at jn_1
        exact jn_1
    · refine lv_iconst (v := 2) hx hb d_Mod_throwing_13 (by decide) ?_
      refine lv_goto (tgt := 35) hx hb d_Mod_throwing_14 (by decide) ?_
      rw [show (if a1 = 0 then (if a2 = 0 then (if a3 = 0 then (if a4 = 0 then 0 else 4) else 3) else 2) else 1 : Int32) = 2 from by rw [if_pos c_2, if_neg c_3]] at jn_1
      exact jn_1
  · refine lv_iconst (v := 1) hx hb d_Mod_throwing_5 (by decide) ?_
    refine lv_goto (tgt := 35) hx hb d_Mod_throwing_6 (by decide) ?_
    rw [show (if a1 = 0 then (if a2 = 0 then (if a3 = 0 then (if a4 = 0 then 0 else 4) else 3) else 2) else 1 : Int32) = 1 from by rw [if_neg c_2]] at jn_1
    exact jn_1
