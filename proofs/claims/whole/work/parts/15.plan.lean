set_option maxHeartbeats 400000 in
set_option maxRecDepth 100000 in
theorem p_Rooms_add (l : Launch) (dC : Nat → ClassId) (dI : Nat → Nat → Nat) (cI cZ : ClassId) (ad : Nat → Nat) (x : ST) (hI : CIn x) (a1 a2 : Int32) (hf : ¬ q_rn x < 40) : MX l y_Rooms_add (Cond.code y_Rooms_add b_Rooms_add 3 (some .int) :: BW) { frames := 0, cells := 0, slots := 0, locals := 0 } (PC (dC, dI) [(cI, .int), (cZ, .boolean)] (wC cI cZ ad x) [.ref (ad 1), .int a1, .int a2]) (PQ (some (.int (-1)))) 0 0 (fun _ => False) := by
  refine MX.ofW (cc := b_Rooms_add) (maxL := 3) (ret := (some .int)) (by decide) rfl ?_
  intro p e s m args below meth c s₁ B hml hex hv
  obtain ⟨rfl, hP, hK, hN⟩ := hv
  have hx := B.exec
  have hb := B.bytes
  have hr := B.returns
  have hts := atoms_spec (ws := Cond.code y_Rooms_add b_Rooms_add 3 (some .int) :: BW) B.pre
  have hbw : ∀ w ∈ BW, w.before ([.ref (ad 1), .int a1, .int a2]).toArray s = true := fun w h => hts w (List.mem_cons_of_mem _ h)
  have hown : s.vm.findClass "PlanRows$Rooms" = some m.cls := findClass_of_methodNamed B.named
  have hlocks := B.notSynchronized
  have hl := lv_entry ([.ref (ad 1), .int a1, .int a2]) (n := 3) (Nat.le_of_ble_eq_true rfl)
  rw [lg_entry_eq]
  generalize (lg_sl ([.ref (ad 1), .int a1, .int a2]) ++ List.replicate (3 - (lg_sl ([.ref (ad 1), .int a1, .int a2])).length) Slot.unset).toArray = ls at hl ⊢
  have hl : lv_has ls 3 [(0, .ref (ad 1)), (1, .int a1), (2, .int a2)] := hl
  refine lv_aload_n hx hb d_Rooms_add_0 rfl (lv_at hl 0 rfl) ?_
  refine va_get (D := (dC, dI)) (ci := 4) (v := .int (q_rn x)) (C := R_Rooms) (T := F_Rooms) (N := 4) hx hb hbw in_Rooms hown hK hP 1 rfl rfl 3 (by decide) (hbw _ w_37) (fun _ h9 => h9) rfl d_Rooms_add_1 ?_
  refine lv_bipush (v := 40) hx hb d_Rooms_add_4 (by decide) ?_
  refine lv_icmp_lt (tgt := 11) hx hb d_Rooms_add_6 (by decide) (fun c_1 => ?_) (fun c_1 => ?_)
  · exact absurd c_1 hf
  · refine lv_iconst (v := (-1)) hx hb d_Rooms_add_9 (by decide) ?_
    exact W.toX (W.iret (v := -1) hx hb hr (fun t ht hW => ⟨rfl, ht⟩) (fun q hq => by cases hq) d_Rooms_add_10)
theorem ka_Rooms {x : ST} (hI : CIn x) (h : q_rn x < 40) (a1 a2 : Int32) : k_Plan_wantAdded (g_Rooms_add x a1 a2).1 = 0 := by
  unfold g_Rooms_add
  rw [if_pos h]
  show k_Plan_wantAdded (q_rn x + 1 - 1) = 0
  have e : q_rn x + 1 - 1 = q_rn x := by rw [Int32.add_sub_cancel]
  rw [e]
  unfold k_Plan_wantAdded
  refine if_neg (fun hc => ?_)
  have h1 := hI.1.1
  rw [hc] at h1
  exact absurd h1 (by decide)
set_option maxHeartbeats 400000 in
set_option maxRecDepth 100000 in
theorem p_Doors_add (l : Launch) (dC : Nat → ClassId) (dI : Nat → Nat → Nat) (cI cZ : ClassId) (ad : Nat → Nat) (x : ST) (hI : CIn x) (a1 a2 a3 a4 : Int32) (hf : ¬ q_dn x < 80) : MX l y_Doors_add (Cond.code y_Doors_add b_Doors_add 5 (some .int) :: BW) { frames := 0, cells := 0, slots := 0, locals := 0 } (PC (dC, dI) [(cI, .int), (cZ, .boolean)] (wC cI cZ ad x) [.ref (ad 2), .int a1, .int a2, .int a3, .int a4]) (PQ (some (.int (-1)))) 0 0 (fun _ => False) := by
  refine MX.ofW (cc := b_Doors_add) (maxL := 5) (ret := (some .int)) (by decide) rfl ?_
  intro p e s m args below meth c s₁ B hml hex hv
  obtain ⟨rfl, hP, hK, hN⟩ := hv
  have hx := B.exec
  have hb := B.bytes
  have hr := B.returns
  have hts := atoms_spec (ws := Cond.code y_Doors_add b_Doors_add 5 (some .int) :: BW) B.pre
  have hbw : ∀ w ∈ BW, w.before ([.ref (ad 2), .int a1, .int a2, .int a3, .int a4]).toArray s = true := fun w h => hts w (List.mem_cons_of_mem _ h)
  have hown : s.vm.findClass "PlanRows$Doors" = some m.cls := findClass_of_methodNamed B.named
  have hlocks := B.notSynchronized
  have hl := lv_entry ([.ref (ad 2), .int a1, .int a2, .int a3, .int a4]) (n := 5) (Nat.le_of_ble_eq_true rfl)
  rw [lg_entry_eq]
  generalize (lg_sl ([.ref (ad 2), .int a1, .int a2, .int a3, .int a4]) ++ List.replicate (5 - (lg_sl ([.ref (ad 2), .int a1, .int a2, .int a3, .int a4])).length) Slot.unset).toArray = ls at hl ⊢
  have hl : lv_has ls 5 [(0, .ref (ad 2)), (1, .int a1), (2, .int a2), (3, .int a3), (4, .int a4)] := hl
  refine lv_aload_n hx hb d_Doors_add_0 rfl (lv_at hl 0 rfl) ?_
  refine va_get (D := (dC, dI)) (ci := 2) (v := .int (q_dn x)) (C := R_Doors) (T := F_Doors) (N := 5) hx hb hbw in_Doors hown hK hP 2 rfl rfl 4 (by decide) (hbw _ w_60) (fun _ h9 => h9) rfl d_Doors_add_1 ?_
  refine lv_bipush (v := 80) hx hb d_Doors_add_4 (by decide) ?_
  refine lv_icmp_lt (tgt := 11) hx hb d_Doors_add_6 (by decide) (fun c_1 => ?_) (fun c_1 => ?_)
  · exact absurd c_1 hf
  · refine lv_iconst (v := (-1)) hx hb d_Doors_add_9 (by decide) ?_
    exact W.toX (W.iret (v := -1) hx hb hr (fun t ht hW => ⟨rfl, ht⟩) (fun q hq => by cases hq) d_Doors_add_10)
theorem ka_Doors {x : ST} (hI : CIn x) (h : q_dn x < 80) (a1 a2 a3 a4 : Int32) : k_Plan_wantAdded (g_Doors_add x a1 a2 a3 a4).1 = 0 := by
  unfold g_Doors_add
  rw [if_pos h]
  show k_Plan_wantAdded (q_dn x + 1 - 1) = 0
  have e : q_dn x + 1 - 1 = q_dn x := by rw [Int32.add_sub_cancel]
  rw [e]
  unfold k_Plan_wantAdded
  refine if_neg (fun hc => ?_)
  have h1 := hI.2.1.1
  rw [hc] at h1
  exact absurd h1 (by decide)
set_option maxHeartbeats 400000 in
set_option maxRecDepth 100000 in
theorem p_Det_add (l : Launch) (dC : Nat → ClassId) (dI : Nat → Nat → Nat) (cI cZ : ClassId) (ad : Nat → Nat) (x : ST) (hI : CIn x) (a1 a2 a3 : Int32) (hf : ¬ q_tc x < 100) : MX l y_Det_add (Cond.code y_Det_add b_Det_add 4 (some .int) :: BW) { frames := 0, cells := 0, slots := 0, locals := 0 } (PC (dC, dI) [(cI, .int), (cZ, .boolean)] (wC cI cZ ad x) [.ref (ad 6), .int a1, .int a2, .int a3]) (PQ (some (.int (-1)))) 0 0 (fun _ => False) := by
  refine MX.ofW (cc := b_Det_add) (maxL := 4) (ret := (some .int)) (by decide) rfl ?_
  intro p e s m args below meth c s₁ B hml hex hv
  obtain ⟨rfl, hP, hK, hN⟩ := hv
  have hx := B.exec
  have hb := B.bytes
  have hr := B.returns
  have hts := atoms_spec (ws := Cond.code y_Det_add b_Det_add 4 (some .int) :: BW) B.pre
  have hbw : ∀ w ∈ BW, w.before ([.ref (ad 6), .int a1, .int a2, .int a3]).toArray s = true := fun w h => hts w (List.mem_cons_of_mem _ h)
  have hown : s.vm.findClass "PlanRows$Detectors" = some m.cls := findClass_of_methodNamed B.named
  have hlocks := B.notSynchronized
  have hl := lv_entry ([.ref (ad 6), .int a1, .int a2, .int a3]) (n := 4) (Nat.le_of_ble_eq_true rfl)
  rw [lg_entry_eq]
  generalize (lg_sl ([.ref (ad 6), .int a1, .int a2, .int a3]) ++ List.replicate (4 - (lg_sl ([.ref (ad 6), .int a1, .int a2, .int a3])).length) Slot.unset).toArray = ls at hl ⊢
  have hl : lv_has ls 4 [(0, .ref (ad 6)), (1, .int a1), (2, .int a2), (3, .int a3)] := hl
  refine lv_aload_n hx hb d_Det_add_0 rfl (lv_at hl 0 rfl) ?_
  refine va_get (D := (dC, dI)) (ci := 1) (v := .int (q_tc x)) (C := R_Det) (T := F_Det) (N := 4) hx hb hbw in_Det hown hK hP 6 rfl rfl 3 (by decide) (hbw _ w_139) (fun _ h9 => h9) rfl d_Det_add_1 ?_
  refine lv_bipush (v := 100) hx hb d_Det_add_4 (by decide) ?_
  refine lv_icmp_lt (tgt := 11) hx hb d_Det_add_6 (by decide) (fun c_1 => ?_) (fun c_1 => ?_)
  · exact absurd c_1 hf
  · refine lv_iconst (v := (-1)) hx hb d_Det_add_9 (by decide) ?_
    exact W.toX (W.iret (v := -1) hx hb hr (fun t ht hW => ⟨rfl, ht⟩) (fun q hq => by cases hq) d_Det_add_10)
theorem ka_Det {x : ST} (hI : CIn x) (h : q_tc x < 100) (a1 a2 a3 : Int32) : k_Plan_wantAdded (g_Det_add x a1 a2 a3).1 = 0 := by
  unfold g_Det_add
  rw [if_pos h]
  show k_Plan_wantAdded (q_tc x + 1 - 1) = 0
  have e : q_tc x + 1 - 1 = q_tc x := by rw [Int32.add_sub_cancel]
  rw [e]
  unfold k_Plan_wantAdded
  refine if_neg (fun hc => ?_)
  have h1 := hI.2.2.1.1
  rw [hc] at h1
  exact absurd h1 (by decide)
set_option maxHeartbeats 400000 in
set_option maxRecDepth 100000 in
theorem p_Crowd_add (l : Launch) (dC : Nat → ClassId) (dI : Nat → Nat → Nat) (cI cZ : ClassId) (ad : Nat → Nat) (x : ST) (hI : CIn x) (a1 a2 a3 a4 : Int32) (hf : ¬ q_pc x < 60) : MX l y_Crowd_add (Cond.code y_Crowd_add b_Crowd_add 5 (some .int) :: BW) { frames := 0, cells := 0, slots := 0, locals := 0 } (PC (dC, dI) [(cI, .int), (cZ, .boolean)] (wC cI cZ ad x) [.ref (ad 7), .int a1, .int a2, .int a3, .int a4]) (PQ (some (.int (-1)))) 0 0 (fun _ => False) := by
  refine MX.ofW (cc := b_Crowd_add) (maxL := 5) (ret := (some .int)) (by decide) rfl ?_
  intro p e s m args below meth c s₁ B hml hex hv
  obtain ⟨rfl, hP, hK, hN⟩ := hv
  have hx := B.exec
  have hb := B.bytes
  have hr := B.returns
  have hts := atoms_spec (ws := Cond.code y_Crowd_add b_Crowd_add 5 (some .int) :: BW) B.pre
  have hbw : ∀ w ∈ BW, w.before ([.ref (ad 7), .int a1, .int a2, .int a3, .int a4]).toArray s = true := fun w h => hts w (List.mem_cons_of_mem _ h)
  have hown : s.vm.findClass "PlanRows$Crowd" = some m.cls := findClass_of_methodNamed B.named
  have hlocks := B.notSynchronized
  have hl := lv_entry ([.ref (ad 7), .int a1, .int a2, .int a3, .int a4]) (n := 5) (Nat.le_of_ble_eq_true rfl)
  rw [lg_entry_eq]
  generalize (lg_sl ([.ref (ad 7), .int a1, .int a2, .int a3, .int a4]) ++ List.replicate (5 - (lg_sl ([.ref (ad 7), .int a1, .int a2, .int a3, .int a4])).length) Slot.unset).toArray = ls at hl ⊢
  have hl : lv_has ls 5 [(0, .ref (ad 7)), (1, .int a1), (2, .int a2), (3, .int a3), (4, .int a4)] := hl
  refine lv_aload_n hx hb d_Crowd_add_0 rfl (lv_at hl 0 rfl) ?_
  refine va_get (D := (dC, dI)) (ci := 0) (v := .int (q_pc x)) (C := R_Crowd) (T := F_Crowd) (N := 5) hx hb hbw in_Crowd hown hK hP 7 rfl rfl 4 (by decide) (hbw _ w_160) (fun _ h9 => h9) rfl d_Crowd_add_1 ?_
  refine lv_bipush (v := 60) hx hb d_Crowd_add_4 (by decide) ?_
  refine lv_icmp_lt (tgt := 11) hx hb d_Crowd_add_6 (by decide) (fun c_1 => ?_) (fun c_1 => ?_)
  · exact absurd c_1 hf
  · refine lv_iconst (v := (-1)) hx hb d_Crowd_add_9 (by decide) ?_
    exact W.toX (W.iret (v := -1) hx hb hr (fun t ht hW => ⟨rfl, ht⟩) (fun q hq => by cases hq) d_Crowd_add_10)
theorem ka_Crowd {x : ST} (hI : CIn x) (h : q_pc x < 60) (a1 a2 a3 a4 : Int32) : k_Plan_wantAdded (g_Crowd_add x a1 a2 a3 a4).1 = 0 := by
  unfold g_Crowd_add
  rw [if_pos h]
  show k_Plan_wantAdded (q_pc x + 1 - 1) = 0
  have e : q_pc x + 1 - 1 = q_pc x := by rw [Int32.add_sub_cancel]
  rw [e]
  unfold k_Plan_wantAdded
  refine if_neg (fun hc => ?_)
  have h1 := hI.2.2.2.1.1
  rw [hc] at h1
  exact absurd h1 (by decide)
set_option maxHeartbeats 400000 in
set_option maxRecDepth 100000 in
theorem p_Win_add (l : Launch) (dC : Nat → ClassId) (dI : Nat → Nat → Nat) (cI cZ : ClassId) (ad : Nat → Nat) (x : ST) (hI : CIn x) (a1 a2 a3 : Int32) (hf : ¬ q_wc x < 30) : MX l y_Win_add (Cond.code y_Win_add b_Win_add 4 (some .int) :: BW) { frames := 0, cells := 0, slots := 0, locals := 0 } (PC (dC, dI) [(cI, .int), (cZ, .boolean)] (wC cI cZ ad x) [.ref (ad 8), .int a1, .int a2, .int a3]) (PQ (some (.int (-1)))) 0 0 (fun _ => False) := by
  refine MX.ofW (cc := b_Win_add) (maxL := 4) (ret := (some .int)) (by decide) rfl ?_
  intro p e s m args below meth c s₁ B hml hex hv
  obtain ⟨rfl, hP, hK, hN⟩ := hv
  have hx := B.exec
  have hb := B.bytes
  have hr := B.returns
  have hts := atoms_spec (ws := Cond.code y_Win_add b_Win_add 4 (some .int) :: BW) B.pre
  have hbw : ∀ w ∈ BW, w.before ([.ref (ad 8), .int a1, .int a2, .int a3]).toArray s = true := fun w h => hts w (List.mem_cons_of_mem _ h)
  have hown : s.vm.findClass "PlanRows$Windows" = some m.cls := findClass_of_methodNamed B.named
  have hlocks := B.notSynchronized
  have hl := lv_entry ([.ref (ad 8), .int a1, .int a2, .int a3]) (n := 4) (Nat.le_of_ble_eq_true rfl)
  rw [lg_entry_eq]
  generalize (lg_sl ([.ref (ad 8), .int a1, .int a2, .int a3]) ++ List.replicate (4 - (lg_sl ([.ref (ad 8), .int a1, .int a2, .int a3])).length) Slot.unset).toArray = ls at hl ⊢
  have hl : lv_has ls 4 [(0, .ref (ad 8)), (1, .int a1), (2, .int a2), (3, .int a3)] := hl
  refine lv_aload_n hx hb d_Win_add_0 rfl (lv_at hl 0 rfl) ?_
  refine va_get (D := (dC, dI)) (ci := 7) (v := .int (q_wc x)) (C := R_Win) (T := F_Win) (N := 4) hx hb hbw in_Win hown hK hP 8 rfl rfl 3 (by decide) (hbw _ w_181) (fun _ h9 => h9) rfl d_Win_add_1 ?_
  refine lv_bipush (v := 30) hx hb d_Win_add_4 (by decide) ?_
  refine lv_icmp_lt (tgt := 11) hx hb d_Win_add_6 (by decide) (fun c_1 => ?_) (fun c_1 => ?_)
  · exact absurd c_1 hf
  · refine lv_iconst (v := (-1)) hx hb d_Win_add_9 (by decide) ?_
    exact W.toX (W.iret (v := -1) hx hb hr (fun t ht hW => ⟨rfl, ht⟩) (fun q hq => by cases hq) d_Win_add_10)
theorem ka_Win {x : ST} (hI : CIn x) (h : q_wc x < 30) (a1 a2 a3 : Int32) : k_Plan_wantAdded (g_Win_add x a1 a2 a3).1 = 0 := by
  unfold g_Win_add
  rw [if_pos h]
  show k_Plan_wantAdded (q_wc x + 1 - 1) = 0
  have e : q_wc x + 1 - 1 = q_wc x := by rw [Int32.add_sub_cancel]
  rw [e]
  unfold k_Plan_wantAdded
  refine if_neg (fun hc => ?_)
  have h1 := hI.2.2.2.2.1.1
  rw [hc] at h1
  exact absurd h1 (by decide)
def k_Plan_told (x : ST) (a1 : Int32) : Nat := if a1 = 0 then 0 else (if a1 = 1 then 0 else (if a1 = 2 then 0 else 1))
def f_Plan_told (x : ST) (a1 : Int32) : Int32 := if a1 = 0 then (q_rl x) else (if a1 = 1 then (q_rs x) else (if a1 = 2 then (q_re x) else 0))
set_option maxHeartbeats 400000 in
set_option maxRecDepth 100000 in
theorem c_Plan_told (l : Launch) (dC : Nat → ClassId) (dI : Nat → Nat → Nat) (cI cZ : ClassId) (ad : Nat → Nat) (x : ST) (hI : CIn x) (a1 : Int32) (hk : k_Plan_told x a1 = 0) : MX l y_Plan_told (Cond.code y_Plan_told b_Plan_told 2 (some .int) :: BW) { frames := 0, cells := 0, slots := 0, locals := 0 } (PC (dC, dI) [(cI, .int), (cZ, .boolean)] (wC cI cZ ad x) [.ref (ad 0), .int a1]) (PQ (some (.int (f_Plan_told x a1)))) 0 0 (fun _ => False) := by
  refine MX.ofW (cc := b_Plan_told) (maxL := 2) (ret := (some .int)) (by decide) rfl ?_
  intro p e s m args below meth c s₁ B hml hex hv
  obtain ⟨rfl, hP, hK, hN⟩ := hv
  have hx := B.exec
  have hb := B.bytes
  have hr := B.returns
  have hts := atoms_spec (ws := Cond.code y_Plan_told b_Plan_told 2 (some .int) :: BW) B.pre
  have hbw : ∀ w ∈ BW, w.before ([.ref (ad 0), .int a1]).toArray s = true := fun w h => hts w (List.mem_cons_of_mem _ h)
  have hown : s.vm.findClass "PlanRows" = some m.cls := findClass_of_methodNamed B.named
  have hlocks := B.notSynchronized
  have hl := lv_entry ([.ref (ad 0), .int a1]) (n := 2) (Nat.le_of_ble_eq_true rfl)
  rw [lg_entry_eq]
  generalize (lg_sl ([.ref (ad 0), .int a1]) ++ List.replicate (2 - (lg_sl ([.ref (ad 0), .int a1])).length) Slot.unset).toArray = ls at hl ⊢
  have hl : lv_has ls 2 [(0, .ref (ad 0)), (1, .int a1)] := hl
  refine lv_iload_n hx hb d_Plan_told_0 rfl (lv_at hl 1 rfl) ?_
  by_cases c_1 : a1 = 0
  · refine lv_tableIn (off := 27) (tgt := 28) hx hb d_Plan_told_1 (by rw [c_1]; decide) (by rw [c_1]; decide) (by rw [c_1]; rfl) (by decide) ?_
    refine lv_aload_n hx hb d_Plan_told_28 rfl (lv_at hl 0 rfl) ?_
    refine va_get (D := (dC, dI)) (ci := 8) (v := .ref (ad 5)) (C := R_Plan) (T := F_Plan) (N := 10) hx hb hbw in_Plan hown hK hP 0 rfl rfl 4 (by decide) (hbw _ w_196) (fun _ h9 => h9) rfl d_Plan_told_29 ?_
    refine va_getN (D := (dC, dI)) (ci := 5) (v := .int (q_rl x)) (C := R_Route) (T := F_Route) (N := 4) hx hb hbw in_Route hown hK hP 5 rfl rfl 1 (by decide) (va_Nw.use rfl (hN _ nw_9)) (fun _ h9 => h9) rfl d_Plan_told_32 ?_
    exact W.toX (W.iret (v := q_rl x) hx hb hr (fun t ht hW => ⟨by rw [show f_Plan_told x a1 = q_rl x from by unfold f_Plan_told; rw [if_pos c_1]], ht⟩) (fun q hq => by cases hq) d_Plan_told_35)
  · by_cases c_2 : a1 = 1
    · refine lv_tableIn (off := 35) (tgt := 36) hx hb d_Plan_told_1 (by rw [c_2]; decide) (by rw [c_2]; decide) (by rw [c_2]; rfl) (by decide) ?_
      refine lv_aload_n hx hb d_Plan_told_36 rfl (lv_at hl 0 rfl) ?_
      refine va_get (D := (dC, dI)) (ci := 8) (v := .ref (ad 5)) (C := R_Plan) (T := F_Plan) (N := 10) hx hb hbw in_Plan hown hK hP 0 rfl rfl 4 (by decide) (hbw _ w_196) (fun _ h9 => h9) rfl d_Plan_told_37 ?_
      refine va_getN (D := (dC, dI)) (ci := 5) (v := .int (q_rs x)) (C := R_Route) (T := F_Route) (N := 4) hx hb hbw in_Route hown hK hP 5 rfl rfl 2 (by decide) (va_Nw.use rfl (hN _ nw_10)) (fun _ h9 => h9) rfl d_Plan_told_40 ?_
      exact W.toX (W.iret (v := q_rs x) hx hb hr (fun t ht hW => ⟨by rw [show f_Plan_told x a1 = q_rs x from by unfold f_Plan_told; rw [if_neg c_1, if_pos c_2]], ht⟩) (fun q hq => by cases hq) d_Plan_told_43)
    · by_cases c_3 : a1 = 2
      · refine lv_tableIn (off := 43) (tgt := 44) hx hb d_Plan_told_1 (by rw [c_3]; decide) (by rw [c_3]; decide) (by rw [c_3]; rfl) (by decide) ?_
        refine lv_aload_n hx hb d_Plan_told_44 rfl (lv_at hl 0 rfl) ?_
        refine va_get (D := (dC, dI)) (ci := 8) (v := .ref (ad 5)) (C := R_Plan) (T := F_Plan) (N := 10) hx hb hbw in_Plan hown hK hP 0 rfl rfl 4 (by decide) (hbw _ w_196) (fun _ h9 => h9) rfl d_Plan_told_45 ?_
        refine va_getN (D := (dC, dI)) (ci := 5) (v := .int (q_re x)) (C := R_Route) (T := F_Route) (N := 4) hx hb hbw in_Route hown hK hP 5 rfl rfl 3 (by decide) (va_Nw.use rfl (hN _ nw_11)) (fun _ h9 => h9) rfl d_Plan_told_48 ?_
        exact W.toX (W.iret (v := q_re x) hx hb hr (fun t ht hW => ⟨by rw [show f_Plan_told x a1 = q_re x from by unfold f_Plan_told; rw [if_neg c_1, if_neg c_2, if_pos c_3]], ht⟩) (fun q hq => by cases hq) d_Plan_told_51)
      · refine lv_tableOut (tgt := 52) hx hb d_Plan_told_1 (by have h0 := lv_neT c_1 (show (0 : Int32).toInt = 0 from rfl); have h1 := lv_neT c_2 (show (1 : Int32).toInt = 1 from rfl); have h2 := lv_neT c_3 (show (2 : Int32).toInt = 2 from rfl); omega) (by decide) ?_
        exact absurd (show k_Plan_told x a1 = 1 from by unfold k_Plan_told; rw [if_neg c_1, if_neg c_2, if_neg c_3]) (by rw [hk]; decide)
set_option maxHeartbeats 400000 in
set_option maxRecDepth 100000 in
theorem t_Plan_told (l : Launch) (htr : l.stackTraces = false) (dC : Nat → ClassId) (dI : Nat → Nat → Nat) (cI cZ : ClassId) (ad : Nat → Nat) (x : ST) (hI : CIn x) (a1 : Int32) (hk : ¬ k_Plan_told x a1 = 0) : MX l y_Plan_told (Cond.code y_Plan_told b_Plan_told 2 (some .int) :: BW) { frames := 6, cells := 1, slots := 6, locals := 82 } (PX (dC, dI) [(cI, .int), (cZ, .boolean)] (wC cI cZ ad x) [.ref (ad 0), .int a1]) (TQ (xnm (k_Plan_told x a1))) 1 6 (fun _ => False) := by
  refine MX.ofW (cc := b_Plan_told) (maxL := 2) (ret := (some .int)) (by decide) rfl ?_
  intro p e s m args below meth c s₁ B hml hex hv
  obtain ⟨hE, rfl, hP, hK, hN⟩ := hv
  have hx := B.exec
  have hb := B.bytes
  have hr := B.returns
  have hts := atoms_spec (ws := Cond.code y_Plan_told b_Plan_told 2 (some .int) :: BW) B.pre
  have hbw : ∀ w ∈ BW, w.before ([.ref (ad 0), .int a1]).toArray s = true := fun w h => hts w (List.mem_cons_of_mem _ h)
  have hown : s.vm.findClass "PlanRows" = some m.cls := findClass_of_methodNamed B.named
  have hlocks := B.notSynchronized
  have hl := lv_entry ([.ref (ad 0), .int a1]) (n := 2) (Nat.le_of_ble_eq_true rfl)
  rw [lg_entry_eq]
  generalize (lg_sl ([.ref (ad 0), .int a1]) ++ List.replicate (2 - (lg_sl ([.ref (ad 0), .int a1])).length) Slot.unset).toArray = ls at hl ⊢
  have hl : lv_has ls 2 [(0, .ref (ad 0)), (1, .int a1)] := hl
  refine lv_iload_n hx hb d_Plan_told_0 rfl (lv_at hl 1 rfl) ?_
  by_cases c_1 : a1 = 0
  · refine lv_tableIn (off := 27) (tgt := 28) hx hb d_Plan_told_1 (by rw [c_1]; decide) (by rw [c_1]; decide) (by rw [c_1]; rfl) (by decide) ?_
    refine lv_aload_n hx hb d_Plan_told_28 rfl (lv_at hl 0 rfl) ?_
    refine va_get (D := (dC, dI)) (ci := 8) (v := .ref (ad 5)) (C := R_Plan) (T := F_Plan) (N := 10) hx hb hbw in_Plan hown hK hP 0 rfl rfl 4 (by decide) (hbw _ w_196) (fun _ h9 => h9) rfl d_Plan_told_29 ?_
    refine va_getN (D := (dC, dI)) (ci := 5) (v := .int (q_rl x)) (C := R_Route) (T := F_Route) (N := 4) hx hb hbw in_Route hown hK hP 5 rfl rfl 1 (by decide) (va_Nw.use rfl (hN _ nw_9)) (fun _ h9 => h9) rfl d_Plan_told_32 ?_
    exact absurd (show k_Plan_told x a1 = 0 from by unfold k_Plan_told; rw [if_pos c_1]) hk
  · by_cases c_2 : a1 = 1
    · refine lv_tableIn (off := 35) (tgt := 36) hx hb d_Plan_told_1 (by rw [c_2]; decide) (by rw [c_2]; decide) (by rw [c_2]; rfl) (by decide) ?_
      refine lv_aload_n hx hb d_Plan_told_36 rfl (lv_at hl 0 rfl) ?_
      refine va_get (D := (dC, dI)) (ci := 8) (v := .ref (ad 5)) (C := R_Plan) (T := F_Plan) (N := 10) hx hb hbw in_Plan hown hK hP 0 rfl rfl 4 (by decide) (hbw _ w_196) (fun _ h9 => h9) rfl d_Plan_told_37 ?_
      refine va_getN (D := (dC, dI)) (ci := 5) (v := .int (q_rs x)) (C := R_Route) (T := F_Route) (N := 4) hx hb hbw in_Route hown hK hP 5 rfl rfl 2 (by decide) (va_Nw.use rfl (hN _ nw_10)) (fun _ h9 => h9) rfl d_Plan_told_40 ?_
      exact absurd (show k_Plan_told x a1 = 0 from by unfold k_Plan_told; rw [if_neg c_1, if_pos c_2]) hk
    · by_cases c_3 : a1 = 2
      · refine lv_tableIn (off := 43) (tgt := 44) hx hb d_Plan_told_1 (by rw [c_3]; decide) (by rw [c_3]; decide) (by rw [c_3]; rfl) (by decide) ?_
        refine lv_aload_n hx hb d_Plan_told_44 rfl (lv_at hl 0 rfl) ?_
        refine va_get (D := (dC, dI)) (ci := 8) (v := .ref (ad 5)) (C := R_Plan) (T := F_Plan) (N := 10) hx hb hbw in_Plan hown hK hP 0 rfl rfl 4 (by decide) (hbw _ w_196) (fun _ h9 => h9) rfl d_Plan_told_45 ?_
        refine va_getN (D := (dC, dI)) (ci := 5) (v := .int (q_re x)) (C := R_Route) (T := F_Route) (N := 4) hx hb hbw in_Route hown hK hP 5 rfl rfl 3 (by decide) (va_Nw.use rfl (hN _ nw_11)) (fun _ h9 => h9) rfl d_Plan_told_48 ?_
        exact absurd (show k_Plan_told x a1 = 0 from by unfold k_Plan_told; rw [if_neg c_1, if_neg c_2, if_pos c_3]) hk
      · refine lv_tableOut (tgt := 52) hx hb d_Plan_told_1 (by have h0 := lv_neT c_1 (show (0 : Int32).toInt = 0 from rfl); have h1 := lv_neT c_2 (show (1 : Int32).toInt = 1 from rfl); have h2 := lv_neT c_3 (show (2 : Int32).toInt = 2 from rfl); omega) (by decide) ?_
        rw [show k_Plan_told x a1 = 1 from by unfold k_Plan_told; rw [if_neg c_1, if_neg c_2, if_neg c_3]]
        obtain ⟨qs, hZ⟩ := hE.2.2.2 (161, "no such thing is told of a way") (by decide)
        exact x_throw (own := "PlanRows") (Xn := xnm 1) (tx := "no such thing is told of a way") (names := xup) (qs := qs) hx hb htr hown (by decide +kernel) (by decide +kernel) (hE.hat hbw ow_1) (hbw _ w_236) (hbw _ w_14) hZ hex hml hl.1 hlocks d_Plan_told_52 d_Plan_told_55 d_Plan_told_56 d_Plan_told_58 d_Plan_told_61 (Nat.le_of_ble_eq_true rfl) (Nat.le_of_ble_eq_true rfl) (Nat.le_of_ble_eq_true rfl) (Nat.le_of_ble_eq_true rfl)
def k_Plan_count (x : ST) (a1 : Int32) : Nat := if a1 = 0 then 0 else (if a1 = 1 then 0 else (if a1 = 2 then 0 else (if a1 = 3 then 0 else (if a1 = 4 then 0 else 1))))
def f_Plan_count (x : ST) (a1 : Int32) : Int32 := if a1 = 0 then (q_rn x) else (if a1 = 1 then (q_dn x) else (if a1 = 2 then (q_tc x) else (if a1 = 3 then (q_wc x) else (if a1 = 4 then (q_kn x) else 0))))
set_option maxHeartbeats 400000 in
set_option maxRecDepth 100000 in
theorem c_Plan_count (l : Launch) (dC : Nat → ClassId) (dI : Nat → Nat → Nat) (cI cZ : ClassId) (ad : Nat → Nat) (x : ST) (hI : CIn x) (a1 : Int32) (hk : k_Plan_count x a1 = 0) : MX l y_Plan_count (Cond.code y_Plan_count b_Plan_count 2 (some .int) :: BW) { frames := 0, cells := 0, slots := 0, locals := 0 } (PC (dC, dI) [(cI, .int), (cZ, .boolean)] (wC cI cZ ad x) [.ref (ad 0), .int a1]) (PQ (some (.int (f_Plan_count x a1)))) 0 0 (fun _ => False) := by
  refine MX.ofW (cc := b_Plan_count) (maxL := 2) (ret := (some .int)) (by decide) rfl ?_
  intro p e s m args below meth c s₁ B hml hex hv
  obtain ⟨rfl, hP, hK, hN⟩ := hv
  have hx := B.exec
  have hb := B.bytes
  have hr := B.returns
  have hts := atoms_spec (ws := Cond.code y_Plan_count b_Plan_count 2 (some .int) :: BW) B.pre
  have hbw : ∀ w ∈ BW, w.before ([.ref (ad 0), .int a1]).toArray s = true := fun w h => hts w (List.mem_cons_of_mem _ h)
  have hown : s.vm.findClass "PlanRows" = some m.cls := findClass_of_methodNamed B.named
  have hlocks := B.notSynchronized
  have hl := lv_entry ([.ref (ad 0), .int a1]) (n := 2) (Nat.le_of_ble_eq_true rfl)
  rw [lg_entry_eq]
  generalize (lg_sl ([.ref (ad 0), .int a1]) ++ List.replicate (2 - (lg_sl ([.ref (ad 0), .int a1])).length) Slot.unset).toArray = ls at hl ⊢
  have hl : lv_has ls 2 [(0, .ref (ad 0)), (1, .int a1)] := hl
  refine lv_iload_n hx hb d_Plan_count_0 rfl (lv_at hl 1 rfl) ?_
  by_cases c_1 : a1 = 0
  · refine lv_tableIn (off := 35) (tgt := 36) hx hb d_Plan_count_1 (by rw [c_1]; decide) (by rw [c_1]; decide) (by rw [c_1]; rfl) (by decide) ?_
    refine lv_aload_n hx hb d_Plan_count_36 rfl (lv_at hl 0 rfl) ?_
    refine va_get (D := (dC, dI)) (ci := 8) (v := .ref (ad 1)) (C := R_Plan) (T := F_Plan) (N := 10) hx hb hbw in_Plan hown hK hP 0 rfl rfl 0 (by decide) (hbw _ w_192) (fun _ h9 => h9) rfl d_Plan_count_37 ?_
    refine va_getN (D := (dC, dI)) (ci := 4) (v := .int (q_rn x)) (C := R_Rooms) (T := F_Rooms) (N := 4) hx hb hbw in_Rooms hown hK hP 1 rfl rfl 3 (by decide) (va_Nw.use rfl (hN _ nw_2)) (fun _ h9 => h9) rfl d_Plan_count_40 ?_
    exact W.toX (W.iret (v := q_rn x) hx hb hr (fun t ht hW => ⟨by rw [show f_Plan_count x a1 = q_rn x from by unfold f_Plan_count; rw [if_pos c_1]], ht⟩) (fun q hq => by cases hq) d_Plan_count_43)
  · by_cases c_2 : a1 = 1
    · refine lv_tableIn (off := 43) (tgt := 44) hx hb d_Plan_count_1 (by rw [c_2]; decide) (by rw [c_2]; decide) (by rw [c_2]; rfl) (by decide) ?_
      refine lv_aload_n hx hb d_Plan_count_44 rfl (lv_at hl 0 rfl) ?_
      refine va_get (D := (dC, dI)) (ci := 8) (v := .ref (ad 2)) (C := R_Plan) (T := F_Plan) (N := 10) hx hb hbw in_Plan hown hK hP 0 rfl rfl 1 (by decide) (hbw _ w_193) (fun _ h9 => h9) rfl d_Plan_count_45 ?_
      refine va_getN (D := (dC, dI)) (ci := 2) (v := .int (q_dn x)) (C := R_Doors) (T := F_Doors) (N := 5) hx hb hbw in_Doors hown hK hP 2 rfl rfl 4 (by decide) (va_Nw.use rfl (hN _ nw_5)) (fun _ h9 => h9) rfl d_Plan_count_48 ?_
      exact W.toX (W.iret (v := q_dn x) hx hb hr (fun t ht hW => ⟨by rw [show f_Plan_count x a1 = q_dn x from by unfold f_Plan_count; rw [if_neg c_1, if_pos c_2]], ht⟩) (fun q hq => by cases hq) d_Plan_count_51)
    · by_cases c_3 : a1 = 2
      · refine lv_tableIn (off := 51) (tgt := 52) hx hb d_Plan_count_1 (by rw [c_3]; decide) (by rw [c_3]; decide) (by rw [c_3]; rfl) (by decide) ?_
        refine lv_aload_n hx hb d_Plan_count_52 rfl (lv_at hl 0 rfl) ?_
        refine va_get (D := (dC, dI)) (ci := 8) (v := .ref (ad 6)) (C := R_Plan) (T := F_Plan) (N := 10) hx hb hbw in_Plan hown hK hP 0 rfl rfl 5 (by decide) (hbw _ w_197) (fun _ h9 => h9) rfl d_Plan_count_53 ?_
        refine va_getN (D := (dC, dI)) (ci := 1) (v := .int (q_tc x)) (C := R_Det) (T := F_Det) (N := 4) hx hb hbw in_Det hown hK hP 6 rfl rfl 3 (by decide) (va_Nw.use rfl (hN _ nw_13)) (fun _ h9 => h9) rfl d_Plan_count_56 ?_
        exact W.toX (W.iret (v := q_tc x) hx hb hr (fun t ht hW => ⟨by rw [show f_Plan_count x a1 = q_tc x from by unfold f_Plan_count; rw [if_neg c_1, if_neg c_2, if_pos c_3]], ht⟩) (fun q hq => by cases hq) d_Plan_count_59)
      · by_cases c_4 : a1 = 3
        · refine lv_tableIn (off := 59) (tgt := 60) hx hb d_Plan_count_1 (by rw [c_4]; decide) (by rw [c_4]; decide) (by rw [c_4]; rfl) (by decide) ?_
          refine lv_aload_n hx hb d_Plan_count_60 rfl (lv_at hl 0 rfl) ?_
          refine va_get (D := (dC, dI)) (ci := 8) (v := .ref (ad 8)) (C := R_Plan) (T := F_Plan) (N := 10) hx hb hbw in_Plan hown hK hP 0 rfl rfl 7 (by decide) (hbw _ w_199) (fun _ h9 => h9) rfl d_Plan_count_61 ?_
          refine va_getN (D := (dC, dI)) (ci := 7) (v := .int (q_wc x)) (C := R_Win) (T := F_Win) (N := 4) hx hb hbw in_Win hown hK hP 8 rfl rfl 3 (by decide) (va_Nw.use rfl (hN _ nw_16)) (fun _ h9 => h9) rfl d_Plan_count_64 ?_
          exact W.toX (W.iret (v := q_wc x) hx hb hr (fun t ht hW => ⟨by rw [show f_Plan_count x a1 = q_wc x from by unfold f_Plan_count; rw [if_neg c_1, if_neg c_2, if_neg c_3, if_pos c_4]], ht⟩) (fun q hq => by cases hq) d_Plan_count_67)
        · by_cases c_5 : a1 = 4
          · refine lv_tableIn (off := 67) (tgt := 68) hx hb d_Plan_count_1 (by rw [c_5]; decide) (by rw [c_5]; decide) (by rw [c_5]; rfl) (by decide) ?_
            refine lv_aload_n hx hb d_Plan_count_68 rfl (lv_at hl 0 rfl) ?_
            refine va_get (D := (dC, dI)) (ci := 8) (v := .ref (ad 3)) (C := R_Plan) (T := F_Plan) (N := 10) hx hb hbw in_Plan hown hK hP 0 rfl rfl 2 (by decide) (hbw _ w_194) (fun _ h9 => h9) rfl d_Plan_count_69 ?_
            refine va_getN (D := (dC, dI)) (ci := 3) (v := .int (q_kn x)) (C := R_Keys) (T := F_Keys) (N := 2) hx hb hbw in_Keys hown hK hP 3 rfl rfl 1 (by decide) (va_Nw.use rfl (hN _ nw_7)) (fun _ h9 => h9) rfl d_Plan_count_72 ?_
            exact W.toX (W.iret (v := q_kn x) hx hb hr (fun t ht hW => ⟨by rw [show f_Plan_count x a1 = q_kn x from by unfold f_Plan_count; rw [if_neg c_1, if_neg c_2, if_neg c_3, if_neg c_4, if_pos c_5]], ht⟩) (fun q hq => by cases hq) d_Plan_count_75)
          · refine lv_tableOut (tgt := 76) hx hb d_Plan_count_1 (by have h0 := lv_neT c_1 (show (0 : Int32).toInt = 0 from rfl); have h1 := lv_neT c_2 (show (1 : Int32).toInt = 1 from rfl); have h2 := lv_neT c_3 (show (2 : Int32).toInt = 2 from rfl); have h3 := lv_neT c_4 (show (3 : Int32).toInt = 3 from rfl); have h4 := lv_neT c_5 (show (4 : Int32).toInt = 4 from rfl); omega) (by decide) ?_
            exact absurd (show k_Plan_count x a1 = 1 from by unfold k_Plan_count; rw [if_neg c_1, if_neg c_2, if_neg c_3, if_neg c_4, if_neg c_5]) (by rw [hk]; decide)
set_option maxHeartbeats 400000 in
set_option maxRecDepth 100000 in
theorem t_Plan_count (l : Launch) (htr : l.stackTraces = false) (dC : Nat → ClassId) (dI : Nat → Nat → Nat) (cI cZ : ClassId) (ad : Nat → Nat) (x : ST) (hI : CIn x) (a1 : Int32) (hk : ¬ k_Plan_count x a1 = 0) : MX l y_Plan_count (Cond.code y_Plan_count b_Plan_count 2 (some .int) :: BW) { frames := 6, cells := 1, slots := 6, locals := 82 } (PX (dC, dI) [(cI, .int), (cZ, .boolean)] (wC cI cZ ad x) [.ref (ad 0), .int a1]) (TQ (xnm (k_Plan_count x a1))) 1 6 (fun _ => False) := by
  refine MX.ofW (cc := b_Plan_count) (maxL := 2) (ret := (some .int)) (by decide) rfl ?_
  intro p e s m args below meth c s₁ B hml hex hv
  obtain ⟨hE, rfl, hP, hK, hN⟩ := hv
  have hx := B.exec
  have hb := B.bytes
  have hr := B.returns
  have hts := atoms_spec (ws := Cond.code y_Plan_count b_Plan_count 2 (some .int) :: BW) B.pre
  have hbw : ∀ w ∈ BW, w.before ([.ref (ad 0), .int a1]).toArray s = true := fun w h => hts w (List.mem_cons_of_mem _ h)
  have hown : s.vm.findClass "PlanRows" = some m.cls := findClass_of_methodNamed B.named
  have hlocks := B.notSynchronized
  have hl := lv_entry ([.ref (ad 0), .int a1]) (n := 2) (Nat.le_of_ble_eq_true rfl)
  rw [lg_entry_eq]
  generalize (lg_sl ([.ref (ad 0), .int a1]) ++ List.replicate (2 - (lg_sl ([.ref (ad 0), .int a1])).length) Slot.unset).toArray = ls at hl ⊢
  have hl : lv_has ls 2 [(0, .ref (ad 0)), (1, .int a1)] := hl
  refine lv_iload_n hx hb d_Plan_count_0 rfl (lv_at hl 1 rfl) ?_
  by_cases c_1 : a1 = 0
  · refine lv_tableIn (off := 35) (tgt := 36) hx hb d_Plan_count_1 (by rw [c_1]; decide) (by rw [c_1]; decide) (by rw [c_1]; rfl) (by decide) ?_
    refine lv_aload_n hx hb d_Plan_count_36 rfl (lv_at hl 0 rfl) ?_
    refine va_get (D := (dC, dI)) (ci := 8) (v := .ref (ad 1)) (C := R_Plan) (T := F_Plan) (N := 10) hx hb hbw in_Plan hown hK hP 0 rfl rfl 0 (by decide) (hbw _ w_192) (fun _ h9 => h9) rfl d_Plan_count_37 ?_
    refine va_getN (D := (dC, dI)) (ci := 4) (v := .int (q_rn x)) (C := R_Rooms) (T := F_Rooms) (N := 4) hx hb hbw in_Rooms hown hK hP 1 rfl rfl 3 (by decide) (va_Nw.use rfl (hN _ nw_2)) (fun _ h9 => h9) rfl d_Plan_count_40 ?_
    exact absurd (show k_Plan_count x a1 = 0 from by unfold k_Plan_count; rw [if_pos c_1]) hk
  · by_cases c_2 : a1 = 1
    · refine lv_tableIn (off := 43) (tgt := 44) hx hb d_Plan_count_1 (by rw [c_2]; decide) (by rw [c_2]; decide) (by rw [c_2]; rfl) (by decide) ?_
      refine lv_aload_n hx hb d_Plan_count_44 rfl (lv_at hl 0 rfl) ?_
      refine va_get (D := (dC, dI)) (ci := 8) (v := .ref (ad 2)) (C := R_Plan) (T := F_Plan) (N := 10) hx hb hbw in_Plan hown hK hP 0 rfl rfl 1 (by decide) (hbw _ w_193) (fun _ h9 => h9) rfl d_Plan_count_45 ?_
      refine va_getN (D := (dC, dI)) (ci := 2) (v := .int (q_dn x)) (C := R_Doors) (T := F_Doors) (N := 5) hx hb hbw in_Doors hown hK hP 2 rfl rfl 4 (by decide) (va_Nw.use rfl (hN _ nw_5)) (fun _ h9 => h9) rfl d_Plan_count_48 ?_
      exact absurd (show k_Plan_count x a1 = 0 from by unfold k_Plan_count; rw [if_neg c_1, if_pos c_2]) hk
    · by_cases c_3 : a1 = 2
      · refine lv_tableIn (off := 51) (tgt := 52) hx hb d_Plan_count_1 (by rw [c_3]; decide) (by rw [c_3]; decide) (by rw [c_3]; rfl) (by decide) ?_
        refine lv_aload_n hx hb d_Plan_count_52 rfl (lv_at hl 0 rfl) ?_
        refine va_get (D := (dC, dI)) (ci := 8) (v := .ref (ad 6)) (C := R_Plan) (T := F_Plan) (N := 10) hx hb hbw in_Plan hown hK hP 0 rfl rfl 5 (by decide) (hbw _ w_197) (fun _ h9 => h9) rfl d_Plan_count_53 ?_
        refine va_getN (D := (dC, dI)) (ci := 1) (v := .int (q_tc x)) (C := R_Det) (T := F_Det) (N := 4) hx hb hbw in_Det hown hK hP 6 rfl rfl 3 (by decide) (va_Nw.use rfl (hN _ nw_13)) (fun _ h9 => h9) rfl d_Plan_count_56 ?_
        exact absurd (show k_Plan_count x a1 = 0 from by unfold k_Plan_count; rw [if_neg c_1, if_neg c_2, if_pos c_3]) hk
      · by_cases c_4 : a1 = 3
        · refine lv_tableIn (off := 59) (tgt := 60) hx hb d_Plan_count_1 (by rw [c_4]; decide) (by rw [c_4]; decide) (by rw [c_4]; rfl) (by decide) ?_
          refine lv_aload_n hx hb d_Plan_count_60 rfl (lv_at hl 0 rfl) ?_
          refine va_get (D := (dC, dI)) (ci := 8) (v := .ref (ad 8)) (C := R_Plan) (T := F_Plan) (N := 10) hx hb hbw in_Plan hown hK hP 0 rfl rfl 7 (by decide) (hbw _ w_199) (fun _ h9 => h9) rfl d_Plan_count_61 ?_
          refine va_getN (D := (dC, dI)) (ci := 7) (v := .int (q_wc x)) (C := R_Win) (T := F_Win) (N := 4) hx hb hbw in_Win hown hK hP 8 rfl rfl 3 (by decide) (va_Nw.use rfl (hN _ nw_16)) (fun _ h9 => h9) rfl d_Plan_count_64 ?_
          exact absurd (show k_Plan_count x a1 = 0 from by unfold k_Plan_count; rw [if_neg c_1, if_neg c_2, if_neg c_3, if_pos c_4]) hk
        · by_cases c_5 : a1 = 4
          · refine lv_tableIn (off := 67) (tgt := 68) hx hb d_Plan_count_1 (by rw [c_5]; decide) (by rw [c_5]; decide) (by rw [c_5]; rfl) (by decide) ?_
            refine lv_aload_n hx hb d_Plan_count_68 rfl (lv_at hl 0 rfl) ?_
            refine va_get (D := (dC, dI)) (ci := 8) (v := .ref (ad 3)) (C := R_Plan) (T := F_Plan) (N := 10) hx hb hbw in_Plan hown hK hP 0 rfl rfl 2 (by decide) (hbw _ w_194) (fun _ h9 => h9) rfl d_Plan_count_69 ?_
            refine va_getN (D := (dC, dI)) (ci := 3) (v := .int (q_kn x)) (C := R_Keys) (T := F_Keys) (N := 2) hx hb hbw in_Keys hown hK hP 3 rfl rfl 1 (by decide) (va_Nw.use rfl (hN _ nw_7)) (fun _ h9 => h9) rfl d_Plan_count_72 ?_
            exact absurd (show k_Plan_count x a1 = 0 from by unfold k_Plan_count; rw [if_neg c_1, if_neg c_2, if_neg c_3, if_neg c_4, if_pos c_5]) hk
          · refine lv_tableOut (tgt := 76) hx hb d_Plan_count_1 (by have h0 := lv_neT c_1 (show (0 : Int32).toInt = 0 from rfl); have h1 := lv_neT c_2 (show (1 : Int32).toInt = 1 from rfl); have h2 := lv_neT c_3 (show (2 : Int32).toInt = 2 from rfl); have h3 := lv_neT c_4 (show (3 : Int32).toInt = 3 from rfl); have h4 := lv_neT c_5 (show (4 : Int32).toInt = 4 from rfl); omega) (by decide) ?_
            rw [show k_Plan_count x a1 = 1 from by unfold k_Plan_count; rw [if_neg c_1, if_neg c_2, if_neg c_3, if_neg c_4, if_neg c_5]]
            obtain ⟨qs, hZ⟩ := hE.2.2.2 (209, "no such thing is counted") (by decide)
            exact x_throw (own := "PlanRows") (Xn := xnm 1) (tx := "no such thing is counted") (names := xup) (qs := qs) hx hb htr hown (by decide +kernel) (by decide +kernel) (hE.hat hbw ow_1) (hbw _ w_236) (hbw _ w_14) hZ hex hml hl.1 hlocks d_Plan_count_76 d_Plan_count_79 d_Plan_count_80 d_Plan_count_82 d_Plan_count_85 (Nat.le_of_ble_eq_true rfl) (Nat.le_of_ble_eq_true rfl) (Nat.le_of_ble_eq_true rfl) (Nat.le_of_ble_eq_true rfl)
def k_Plan_old (x : ST) (a1 : Int32) : Nat := if k_Plan_wantWithin a1 0 99999 = 0 then (if (a1 - (q_ld x)) ≤ (q_lt x) then 0 else 0) else 2
def f_Plan_old (x : ST) (a1 : Int32) : Int32 := if k_Plan_wantWithin a1 0 99999 = 0 then (if (a1 - (q_ld x)) ≤ (q_lt x) then 0 else 1) else 0
set_option maxHeartbeats 400000 in
set_option maxRecDepth 100000 in
theorem c_Plan_old (l : Launch) (dC : Nat → ClassId) (dI : Nat → Nat → Nat) (cI cZ : ClassId) (ad : Nat → Nat) (x : ST) (hI : CIn x) (a1 : Int32) (hk : k_Plan_old x a1 = 0) : MX l y_Plan_old (Cond.code y_Plan_old b_Plan_old 2 (some .boolean) :: BW) { frames := 1, cells := 0, slots := 0, locals := 22 } (PC (dC, dI) [(cI, .int), (cZ, .boolean)] (wC cI cZ ad x) [.ref (ad 0), .int a1]) (PQ (some (.int (f_Plan_old x a1)))) 0 0 (fun _ => False) := by
  refine MX.ofW (cc := b_Plan_old) (maxL := 2) (ret := (some .boolean)) (by decide) rfl ?_
  intro p e s m args below meth c s₁ B hml hex hv
  obtain ⟨rfl, hP, hK, hN⟩ := hv
  have hx := B.exec
  have hb := B.bytes
  have hr := B.returns
  have hts := atoms_spec (ws := Cond.code y_Plan_old b_Plan_old 2 (some .boolean) :: BW) B.pre
  have hbw : ∀ w ∈ BW, w.before ([.ref (ad 0), .int a1]).toArray s = true := fun w h => hts w (List.mem_cons_of_mem _ h)
  have hown : s.vm.findClass "PlanRows" = some m.cls := findClass_of_methodNamed B.named
  have hlocks := B.notSynchronized
  have hl := lv_entry ([.ref (ad 0), .int a1]) (n := 2) (Nat.le_of_ble_eq_true rfl)
  rw [lg_entry_eq]
  generalize (lg_sl ([.ref (ad 0), .int a1]) ++ List.replicate (2 - (lg_sl ([.ref (ad 0), .int a1])).length) Slot.unset).toArray = ls at hl ⊢
  have hl : lv_has ls 2 [(0, .ref (ad 0)), (1, .int a1)] := hl
  refine lv_iload_n hx hb d_Plan_old_0 rfl (lv_at hl 1 rfl) ?_
  refine lv_iconst (v := 0) hx hb d_Plan_old_1 (by decide) ?_
  refine lv_ldc (v := 99999) hx hb hown (hbw _ w_687) d_Plan_old_2 ?_
  by_cases c_1 : k_Plan_wantWithin a1 0 99999 = 0
  · refine xs (As := [.int a1, .int 0, .int 99999]) (rest := []) ⟨hx, hb, hml, hown, hts⟩ (c_Plan_wantWithin l dC dI _ _ a1 0 99999 c_1) (cw_Plan_78 hts rfl rfl ⟨Nat.le_of_ble_eq_true rfl, Nat.le_of_ble_eq_true rfl⟩) hK hN hP rfl hl.1 rfl (Nat.le_of_ble_eq_true rfl) d_Plan_old_4 ⟨Nat.zero_le _, Nat.zero_le _⟩ ?_
    refine lv_iload_n hx hb d_Plan_old_7 rfl (lv_at hl 1 rfl) ?_
    refine lv_aload_n hx hb d_Plan_old_8 rfl (lv_at hl 0 rfl) ?_
    refine va_get (D := (dC, dI)) (ci := 8) (v := .int (q_ld x)) (C := R_Plan) (T := F_Plan) (N := 10) hx hb hbw in_Plan hown hK hP 0 rfl rfl 8 (by decide) (hbw _ w_200) (fun _ h9 => h9) rfl d_Plan_old_9 ?_
    refine lv_isub hx hb d_Plan_old_12 ?_
    refine lv_aload_n hx hb d_Plan_old_13 rfl (lv_at hl 0 rfl) ?_
    refine va_get (D := (dC, dI)) (ci := 8) (v := .int (q_lt x)) (C := R_Plan) (T := F_Plan) (N := 10) hx hb hbw in_Plan hown hK hP 0 rfl rfl 9 (by decide) (hbw _ w_201) (fun _ h9 => h9) rfl d_Plan_old_14 ?_
    refine lv_icmp_le (tgt := 24) hx hb d_Plan_old_17 (by decide) (fun c_2 => ?_) (fun c_2 => ?_)
    · refine lv_iconst (v := 0) hx hb d_Plan_old_24 (by decide) ?_
      exact W.toX (W.zret (v := 0) (ty := .boolean) hx hb hr (by rfl) (fun t ht hW => ⟨by rw [show f_Plan_old x a1 = 0 from by unfold f_Plan_old; rw [if_pos c_1, if_pos c_2]], ht⟩) (fun q hq => by cases hq) d_Plan_old_25)
    · refine lv_iconst (v := 1) hx hb d_Plan_old_20 (by decide) ?_
      refine lv_goto (tgt := 25) hx hb d_Plan_old_21 (by decide) ?_
      exact W.toX (W.zret (v := 1) (ty := .boolean) hx hb hr (by rfl) (fun t ht hW => ⟨by rw [show f_Plan_old x a1 = 1 from by unfold f_Plan_old; rw [if_pos c_1, if_neg c_2]], ht⟩) (fun q hq => by cases hq) d_Plan_old_25)
  · exact absurd (show k_Plan_old x a1 = 2 from by unfold k_Plan_old; rw [if_neg c_1]) (by rw [hk]; decide)
set_option maxHeartbeats 400000 in
set_option maxRecDepth 100000 in
theorem t_Plan_old (l : Launch) (htr : l.stackTraces = false) (dC : Nat → ClassId) (dI : Nat → Nat → Nat) (cI cZ : ClassId) (ad : Nat → Nat) (x : ST) (hI : CIn x) (a1 : Int32) (hk : ¬ k_Plan_old x a1 = 0) : MX l y_Plan_old (Cond.code y_Plan_old b_Plan_old 2 (some .boolean) :: BW) { frames := 7, cells := 1, slots := 6, locals := 104 } (PX (dC, dI) [(cI, .int), (cZ, .boolean)] (wC cI cZ ad x) [.ref (ad 0), .int a1]) (TQ (xnm (k_Plan_old x a1))) 1 6 (fun _ => False) := by
  refine MX.ofW (cc := b_Plan_old) (maxL := 2) (ret := (some .boolean)) (by decide) rfl ?_
  intro p e s m args below meth c s₁ B hml hex hv
  obtain ⟨hE, rfl, hP, hK, hN⟩ := hv
  have hx := B.exec
  have hb := B.bytes
  have hr := B.returns
  have hts := atoms_spec (ws := Cond.code y_Plan_old b_Plan_old 2 (some .boolean) :: BW) B.pre
  have hbw : ∀ w ∈ BW, w.before ([.ref (ad 0), .int a1]).toArray s = true := fun w h => hts w (List.mem_cons_of_mem _ h)
  have hown : s.vm.findClass "PlanRows" = some m.cls := findClass_of_methodNamed B.named
  have hlocks := B.notSynchronized
  have hl := lv_entry ([.ref (ad 0), .int a1]) (n := 2) (Nat.le_of_ble_eq_true rfl)
  rw [lg_entry_eq]
  generalize (lg_sl ([.ref (ad 0), .int a1]) ++ List.replicate (2 - (lg_sl ([.ref (ad 0), .int a1])).length) Slot.unset).toArray = ls at hl ⊢
  have hl : lv_has ls 2 [(0, .ref (ad 0)), (1, .int a1)] := hl
  refine lv_iload_n hx hb d_Plan_old_0 rfl (lv_at hl 1 rfl) ?_
  refine lv_iconst (v := 0) hx hb d_Plan_old_1 (by decide) ?_
  refine lv_ldc (v := 99999) hx hb hown (hbw _ w_687) d_Plan_old_2 ?_
  by_cases c_1 : k_Plan_wantWithin a1 0 99999 = 0
  · refine xs (As := [.int a1, .int 0, .int 99999]) (rest := []) ⟨hx, hb, hml, hown, hts⟩ (c_Plan_wantWithin l dC dI _ _ a1 0 99999 c_1) (cw_Plan_78 hts rfl rfl ⟨Nat.le_of_ble_eq_true rfl, Nat.le_of_ble_eq_true rfl⟩) hK hN hP rfl hl.1 rfl (Nat.le_of_ble_eq_true rfl) d_Plan_old_4 ⟨Nat.zero_le _, Nat.zero_le _⟩ ?_
    refine lv_iload_n hx hb d_Plan_old_7 rfl (lv_at hl 1 rfl) ?_
    refine lv_aload_n hx hb d_Plan_old_8 rfl (lv_at hl 0 rfl) ?_
    refine va_get (D := (dC, dI)) (ci := 8) (v := .int (q_ld x)) (C := R_Plan) (T := F_Plan) (N := 10) hx hb hbw in_Plan hown hK hP 0 rfl rfl 8 (by decide) (hbw _ w_200) (fun _ h9 => h9) rfl d_Plan_old_9 ?_
    refine lv_isub hx hb d_Plan_old_12 ?_
    refine lv_aload_n hx hb d_Plan_old_13 rfl (lv_at hl 0 rfl) ?_
    refine va_get (D := (dC, dI)) (ci := 8) (v := .int (q_lt x)) (C := R_Plan) (T := F_Plan) (N := 10) hx hb hbw in_Plan hown hK hP 0 rfl rfl 9 (by decide) (hbw _ w_201) (fun _ h9 => h9) rfl d_Plan_old_14 ?_
    refine lv_icmp_le (tgt := 24) hx hb d_Plan_old_17 (by decide) (fun c_2 => ?_) (fun c_2 => ?_)
    · refine lv_iconst (v := 0) hx hb d_Plan_old_24 (by decide) ?_
      exact absurd (show k_Plan_old x a1 = 0 from by unfold k_Plan_old; rw [if_pos c_1, if_pos c_2]) hk
    · refine lv_iconst (v := 1) hx hb d_Plan_old_20 (by decide) ?_
      refine lv_goto (tgt := 25) hx hb d_Plan_old_21 (by decide) ?_
      exact absurd (show k_Plan_old x a1 = 0 from by unfold k_Plan_old; rw [if_pos c_1, if_neg c_2]) hk
  · rw [show k_Plan_old x a1 = 2 from by unfold k_Plan_old; rw [if_neg c_1]]
    exact x_thrown (x_runS (As := [.int a1, .int 0, .int 99999]) (rest := []) ⟨hx, hb, hml, hown, hts⟩ (t_Plan_wantWithin l htr dC dI _ _ a1 0 99999 c_1) (cw_Plan_78 hts rfl rfl ⟨Nat.le_of_ble_eq_true rfl, Nat.le_of_ble_eq_true rfl⟩) ⟨PX.blind, PX.at hE hK hN hP⟩ rfl rfl hl.1 rfl (lv_room (Nat.le_of_ble_eq_true rfl)) d_Plan_old_4 ⟨Nat.le_of_ble_eq_true rfl, Nat.le_of_ble_eq_true rfl⟩) hex hlocks
theorem z_winReached (x : ST) (a b c d e : Int32) : f_Win_isReached x a b c d e = 0 ∨ f_Win_isReached x a b c d e = 1 := by
  unfold f_Win_isReached
  repeat' split
  all_goals first | exact Or.inl rfl | exact Or.inr rfl
def k_Plan_reaches (x : ST) (a1 a2 a3 a4 a5 : Int32) : Nat := if k_Plan_wantWindow x a1 = 0 then (if k_Plan_wantPoint a2 a3 a4 = 0 then (if k_Plan_wantWithin a5 1 200000 = 0 then 0 else 2) else 2) else 1
def f_Plan_reaches (x : ST) (a1 a2 a3 a4 a5 : Int32) : Int32 := if k_Plan_wantWindow x a1 = 0 then (if k_Plan_wantPoint a2 a3 a4 = 0 then (if k_Plan_wantWithin a5 1 200000 = 0 then (f_Win_isReached x a1 a2 a3 a4 a5) else 0) else 0) else 0
set_option maxHeartbeats 400000 in
set_option maxRecDepth 100000 in
theorem c_Plan_reaches (l : Launch) (dC : Nat → ClassId) (dI : Nat → Nat → Nat) (cI cZ : ClassId) (ad : Nat → Nat) (x : ST) (hI : CIn x) (a1 a2 a3 a4 a5 : Int32) (hk : k_Plan_reaches x a1 a2 a3 a4 a5 = 0) : MX l y_Plan_reaches (Cond.code y_Plan_reaches b_Plan_reaches 6 (some .boolean) :: BW) { frames := 2, cells := 0, slots := 0, locals := 52 } (PC (dC, dI) [(cI, .int), (cZ, .boolean)] (wC cI cZ ad x) [.ref (ad 0), .int a1, .int a2, .int a3, .int a4, .int a5]) (PQ (some (.int (f_Plan_reaches x a1 a2 a3 a4 a5)))) 0 0 (fun _ => False) := by
  refine MX.ofW (cc := b_Plan_reaches) (maxL := 6) (ret := (some .boolean)) (by decide) rfl ?_
  intro p e s m args below meth c s₁ B hml hex hv
  obtain ⟨rfl, hP, hK, hN⟩ := hv
  have hx := B.exec
  have hb := B.bytes
  have hr := B.returns
  have hts := atoms_spec (ws := Cond.code y_Plan_reaches b_Plan_reaches 6 (some .boolean) :: BW) B.pre
  have hbw : ∀ w ∈ BW, w.before ([.ref (ad 0), .int a1, .int a2, .int a3, .int a4, .int a5]).toArray s = true := fun w h => hts w (List.mem_cons_of_mem _ h)
  have hown : s.vm.findClass "PlanRows" = some m.cls := findClass_of_methodNamed B.named
  have hlocks := B.notSynchronized
  have hl := lv_entry ([.ref (ad 0), .int a1, .int a2, .int a3, .int a4, .int a5]) (n := 6) (Nat.le_of_ble_eq_true rfl)
  rw [lg_entry_eq]
  generalize (lg_sl ([.ref (ad 0), .int a1, .int a2, .int a3, .int a4, .int a5]) ++ List.replicate (6 - (lg_sl ([.ref (ad 0), .int a1, .int a2, .int a3, .int a4, .int a5])).length) Slot.unset).toArray = ls at hl ⊢
  have hl : lv_has ls 6 [(0, .ref (ad 0)), (1, .int a1), (2, .int a2), (3, .int a3), (4, .int a4), (5, .int a5)] := hl
  refine lv_aload_n hx hb d_Plan_reaches_0 rfl (lv_at hl 0 rfl) ?_
  refine lv_iload_n hx hb d_Plan_reaches_1 rfl (lv_at hl 1 rfl) ?_
  by_cases c_1 : k_Plan_wantWindow x a1 = 0
  · refine xv (As := [.int a1]) (rest := []) (C := "PlanRows") ⟨hx, hb, hml, hown, hts⟩ (c_Plan_wantWindow l dC dI cI cZ ad x hI a1 c_1) (cw_Plan_190 hts rfl rfl ⟨Nat.le_of_ble_eq_true rfl, Nat.le_of_ble_eq_true rfl⟩) hK hN hP 0 rfl rfl rfl rfl hl.1 rfl (Nat.le_of_ble_eq_true rfl) d_Plan_reaches_2 ⟨Nat.zero_le _, Nat.zero_le _⟩ ?_
    refine lv_iload_n hx hb d_Plan_reaches_5 rfl (lv_at hl 2 rfl) ?_
    refine lv_iload_n hx hb d_Plan_reaches_6 rfl (lv_at hl 3 rfl) ?_
    refine lv_iload hx hb d_Plan_reaches_7 (lv_at hl 4 rfl) ?_
    by_cases c_2 : k_Plan_wantPoint a2 a3 a4 = 0
    · refine xs (As := [.int a2, .int a3, .int a4]) (rest := []) ⟨hx, hb, hml, hown, hts⟩ (c_Plan_wantPoint l dC dI _ _ a2 a3 a4 c_2) (cw_Plan_186 hts rfl rfl ⟨Nat.le_of_ble_eq_true rfl, Nat.le_of_ble_eq_true rfl⟩) hK hN hP rfl hl.1 rfl (Nat.le_of_ble_eq_true rfl) d_Plan_reaches_9 ⟨Nat.zero_le _, Nat.zero_le _⟩ ?_
      refine lv_iload hx hb d_Plan_reaches_12 (lv_at hl 5 rfl) ?_
      refine lv_iconst (v := 1) hx hb d_Plan_reaches_14 (by decide) ?_
      refine lv_ldc (v := 200000) hx hb hown (hbw _ w_640) d_Plan_reaches_15 ?_
      by_cases c_3 : k_Plan_wantWithin a5 1 200000 = 0
      · refine xs (As := [.int a5, .int 1, .int 200000]) (rest := []) ⟨hx, hb, hml, hown, hts⟩ (c_Plan_wantWithin l dC dI _ _ a5 1 200000 c_3) (cw_Plan_78 hts rfl rfl ⟨Nat.le_of_ble_eq_true rfl, Nat.le_of_ble_eq_true rfl⟩) hK hN hP rfl hl.1 rfl (Nat.le_of_ble_eq_true rfl) d_Plan_reaches_17 ⟨Nat.zero_le _, Nat.zero_le _⟩ ?_
        refine lv_aload_n hx hb d_Plan_reaches_20 rfl (lv_at hl 0 rfl) ?_
        refine va_get (D := (dC, dI)) (ci := 8) (v := .ref (ad 8)) (C := R_Plan) (T := F_Plan) (N := 10) hx hb hbw in_Plan hown hK hP 0 rfl rfl 7 (by decide) (hbw _ w_199) (fun _ h9 => h9) rfl d_Plan_reaches_21 ?_
        refine lv_iload_n hx hb d_Plan_reaches_24 rfl (lv_at hl 1 rfl) ?_
        refine lv_iload_n hx hb d_Plan_reaches_25 rfl (lv_at hl 2 rfl) ?_
        refine lv_iload_n hx hb d_Plan_reaches_26 rfl (lv_at hl 3 rfl) ?_
        refine lv_iload hx hb d_Plan_reaches_27 (lv_at hl 4 rfl) ?_
        refine lv_iload hx hb d_Plan_reaches_29 (lv_at hl 5 rfl) ?_
        refine xv (As := [.int a1, .int a2, .int a3, .int a4, .int a5]) (rest := []) (C := "PlanRows$Windows") ⟨hx, hb, hml, hown, hts⟩ (c_Win_isReached l dC dI cI cZ ad x hI a1 a2 a3 a4 a5) (cw_Plan_194 hts rfl rfl ⟨Nat.le_of_ble_eq_true rfl, Nat.le_of_ble_eq_true rfl⟩) hK hN hP 8 rfl rfl rfl rfl hl.1 rfl (Nat.le_of_ble_eq_true rfl) d_Plan_reaches_31 ⟨Nat.zero_le _, Nat.zero_le _⟩ ?_
        exact W.toX (W.zret (v := f_Win_isReached x a1 a2 a3 a4 a5) (ty := .boolean) hx hb hr (by rcases z_winReached x a1 a2 a3 a4 a5 with h | h <;> rw [h] <;> rfl) (fun t ht hW => ⟨by rw [show f_Plan_reaches x a1 a2 a3 a4 a5 = f_Win_isReached x a1 a2 a3 a4 a5 from by unfold f_Plan_reaches; rw [if_pos c_1, if_pos c_2, if_pos c_3]], ht⟩) (fun q hq => by cases hq) d_Plan_reaches_34)
      · exact absurd (show k_Plan_reaches x a1 a2 a3 a4 a5 = 2 from by unfold k_Plan_reaches; rw [if_pos c_1, if_pos c_2, if_neg c_3]) (by rw [hk]; decide)
    · exact absurd (show k_Plan_reaches x a1 a2 a3 a4 a5 = 2 from by unfold k_Plan_reaches; rw [if_pos c_1, if_neg c_2]) (by rw [hk]; decide)
  · exact absurd (show k_Plan_reaches x a1 a2 a3 a4 a5 = 1 from by unfold k_Plan_reaches; rw [if_neg c_1]) (by rw [hk]; decide)
set_option maxHeartbeats 400000 in
set_option maxRecDepth 100000 in
theorem t_Plan_reaches (l : Launch) (htr : l.stackTraces = false) (dC : Nat → ClassId) (dI : Nat → Nat → Nat) (cI cZ : ClassId) (ad : Nat → Nat) (x : ST) (hI : CIn x) (a1 a2 a3 a4 a5 : Int32) (hk : ¬ k_Plan_reaches x a1 a2 a3 a4 a5 = 0) : MX l y_Plan_reaches (Cond.code y_Plan_reaches b_Plan_reaches 6 (some .boolean) :: BW) { frames := 8, cells := 1, slots := 6, locals := 126 } (PX (dC, dI) [(cI, .int), (cZ, .boolean)] (wC cI cZ ad x) [.ref (ad 0), .int a1, .int a2, .int a3, .int a4, .int a5]) (TQ (xnm (k_Plan_reaches x a1 a2 a3 a4 a5))) 1 6 (fun _ => False) := by
  refine MX.ofW (cc := b_Plan_reaches) (maxL := 6) (ret := (some .boolean)) (by decide) rfl ?_
  intro p e s m args below meth c s₁ B hml hex hv
  obtain ⟨hE, rfl, hP, hK, hN⟩ := hv
  have hx := B.exec
  have hb := B.bytes
  have hr := B.returns
  have hts := atoms_spec (ws := Cond.code y_Plan_reaches b_Plan_reaches 6 (some .boolean) :: BW) B.pre
  have hbw : ∀ w ∈ BW, w.before ([.ref (ad 0), .int a1, .int a2, .int a3, .int a4, .int a5]).toArray s = true := fun w h => hts w (List.mem_cons_of_mem _ h)
  have hown : s.vm.findClass "PlanRows" = some m.cls := findClass_of_methodNamed B.named
  have hlocks := B.notSynchronized
  have hl := lv_entry ([.ref (ad 0), .int a1, .int a2, .int a3, .int a4, .int a5]) (n := 6) (Nat.le_of_ble_eq_true rfl)
  rw [lg_entry_eq]
  generalize (lg_sl ([.ref (ad 0), .int a1, .int a2, .int a3, .int a4, .int a5]) ++ List.replicate (6 - (lg_sl ([.ref (ad 0), .int a1, .int a2, .int a3, .int a4, .int a5])).length) Slot.unset).toArray = ls at hl ⊢
  have hl : lv_has ls 6 [(0, .ref (ad 0)), (1, .int a1), (2, .int a2), (3, .int a3), (4, .int a4), (5, .int a5)] := hl
  refine lv_aload_n hx hb d_Plan_reaches_0 rfl (lv_at hl 0 rfl) ?_
  refine lv_iload_n hx hb d_Plan_reaches_1 rfl (lv_at hl 1 rfl) ?_
  by_cases c_1 : k_Plan_wantWindow x a1 = 0
  · refine xv (As := [.int a1]) (rest := []) (C := "PlanRows") ⟨hx, hb, hml, hown, hts⟩ (c_Plan_wantWindow l dC dI cI cZ ad x hI a1 c_1) (cw_Plan_190 hts rfl rfl ⟨Nat.le_of_ble_eq_true rfl, Nat.le_of_ble_eq_true rfl⟩) hK hN hP 0 rfl rfl rfl rfl hl.1 rfl (Nat.le_of_ble_eq_true rfl) d_Plan_reaches_2 ⟨Nat.zero_le _, Nat.zero_le _⟩ ?_
    refine lv_iload_n hx hb d_Plan_reaches_5 rfl (lv_at hl 2 rfl) ?_
    refine lv_iload_n hx hb d_Plan_reaches_6 rfl (lv_at hl 3 rfl) ?_
    refine lv_iload hx hb d_Plan_reaches_7 (lv_at hl 4 rfl) ?_
    by_cases c_2 : k_Plan_wantPoint a2 a3 a4 = 0
    · refine xs (As := [.int a2, .int a3, .int a4]) (rest := []) ⟨hx, hb, hml, hown, hts⟩ (c_Plan_wantPoint l dC dI _ _ a2 a3 a4 c_2) (cw_Plan_186 hts rfl rfl ⟨Nat.le_of_ble_eq_true rfl, Nat.le_of_ble_eq_true rfl⟩) hK hN hP rfl hl.1 rfl (Nat.le_of_ble_eq_true rfl) d_Plan_reaches_9 ⟨Nat.zero_le _, Nat.zero_le _⟩ ?_
      refine lv_iload hx hb d_Plan_reaches_12 (lv_at hl 5 rfl) ?_
      refine lv_iconst (v := 1) hx hb d_Plan_reaches_14 (by decide) ?_
      refine lv_ldc (v := 200000) hx hb hown (hbw _ w_640) d_Plan_reaches_15 ?_
      by_cases c_3 : k_Plan_wantWithin a5 1 200000 = 0
      · refine xs (As := [.int a5, .int 1, .int 200000]) (rest := []) ⟨hx, hb, hml, hown, hts⟩ (c_Plan_wantWithin l dC dI _ _ a5 1 200000 c_3) (cw_Plan_78 hts rfl rfl ⟨Nat.le_of_ble_eq_true rfl, Nat.le_of_ble_eq_true rfl⟩) hK hN hP rfl hl.1 rfl (Nat.le_of_ble_eq_true rfl) d_Plan_reaches_17 ⟨Nat.zero_le _, Nat.zero_le _⟩ ?_
        refine lv_aload_n hx hb d_Plan_reaches_20 rfl (lv_at hl 0 rfl) ?_
        refine va_get (D := (dC, dI)) (ci := 8) (v := .ref (ad 8)) (C := R_Plan) (T := F_Plan) (N := 10) hx hb hbw in_Plan hown hK hP 0 rfl rfl 7 (by decide) (hbw _ w_199) (fun _ h9 => h9) rfl d_Plan_reaches_21 ?_
        refine lv_iload_n hx hb d_Plan_reaches_24 rfl (lv_at hl 1 rfl) ?_
        refine lv_iload_n hx hb d_Plan_reaches_25 rfl (lv_at hl 2 rfl) ?_
        refine lv_iload_n hx hb d_Plan_reaches_26 rfl (lv_at hl 3 rfl) ?_
        refine lv_iload hx hb d_Plan_reaches_27 (lv_at hl 4 rfl) ?_
        refine lv_iload hx hb d_Plan_reaches_29 (lv_at hl 5 rfl) ?_
        refine xv (As := [.int a1, .int a2, .int a3, .int a4, .int a5]) (rest := []) (C := "PlanRows$Windows") ⟨hx, hb, hml, hown, hts⟩ (c_Win_isReached l dC dI cI cZ ad x hI a1 a2 a3 a4 a5) (cw_Plan_194 hts rfl rfl ⟨Nat.le_of_ble_eq_true rfl, Nat.le_of_ble_eq_true rfl⟩) hK hN hP 8 rfl rfl rfl rfl hl.1 rfl (Nat.le_of_ble_eq_true rfl) d_Plan_reaches_31 ⟨Nat.zero_le _, Nat.zero_le _⟩ ?_
        exact absurd (show k_Plan_reaches x a1 a2 a3 a4 a5 = 0 from by unfold k_Plan_reaches; rw [if_pos c_1, if_pos c_2, if_pos c_3]) hk
      · rw [show k_Plan_reaches x a1 a2 a3 a4 a5 = 2 from by unfold k_Plan_reaches; rw [if_pos c_1, if_pos c_2, if_neg c_3]]
        exact x_thrown (x_runS (As := [.int a5, .int 1, .int 200000]) (rest := []) ⟨hx, hb, hml, hown, hts⟩ (t_Plan_wantWithin l htr dC dI _ _ a5 1 200000 c_3) (cw_Plan_78 hts rfl rfl ⟨Nat.le_of_ble_eq_true rfl, Nat.le_of_ble_eq_true rfl⟩) ⟨PX.blind, PX.at hE hK hN hP⟩ rfl rfl hl.1 rfl (lv_room (Nat.le_of_ble_eq_true rfl)) d_Plan_reaches_17 ⟨Nat.le_of_ble_eq_true rfl, Nat.le_of_ble_eq_true rfl⟩) hex hlocks
    · rw [show k_Plan_reaches x a1 a2 a3 a4 a5 = 2 from by unfold k_Plan_reaches; rw [if_pos c_1, if_neg c_2]]
      exact x_thrown (x_runS (As := [.int a2, .int a3, .int a4]) (rest := []) ⟨hx, hb, hml, hown, hts⟩ (t_Plan_wantPoint l htr dC dI _ _ a2 a3 a4 c_2) (cw_Plan_186 hts rfl rfl ⟨Nat.le_of_ble_eq_true rfl, Nat.le_of_ble_eq_true rfl⟩) ⟨PX.blind, PX.at hE hK hN hP⟩ rfl rfl hl.1 rfl (lv_room (Nat.le_of_ble_eq_true rfl)) d_Plan_reaches_9 ⟨Nat.le_of_ble_eq_true rfl, Nat.le_of_ble_eq_true rfl⟩) hex hlocks
  · rw [show k_Plan_reaches x a1 a2 a3 a4 a5 = 1 from by unfold k_Plan_reaches; rw [if_neg c_1]]
    exact x_thrown (x_runV (C := "PlanRows") (b := (ad 0)) (As := [.int a1]) (rest := []) ⟨hx, hb, hml, hown, hts⟩ (t_Plan_wantWindow l htr dC dI cI cZ ad x hI a1 c_1) (cw_Plan_190 hts rfl rfl ⟨Nat.le_of_ble_eq_true rfl, Nat.le_of_ble_eq_true rfl⟩) ⟨PX.blind, va_recv hK hP (ci := 8) (q0 := 0) rfl rfl, PX.at hE hK hN hP⟩ rfl rfl hl.1 rfl (lv_room (Nat.le_of_ble_eq_true rfl)) d_Plan_reaches_2 ⟨Nat.le_of_ble_eq_true rfl, Nat.le_of_ble_eq_true rfl⟩) hex hlocks
def k_Plan_room (x : ST) (a1 a2 : Int32) : Nat := if k_Plan_wantKind a2 = 0 then (if k_Plan_wantWithin a1 0 19 = 0 then (if q_rn x < 40 then 0 else (if k_Plan_wantAdded (-1) = 0 then 0 else 4)) else 2) else 1
set_option maxHeartbeats 400000 in
set_option maxRecDepth 100000 in
theorem t_Plan_room (l : Launch) (htr : l.stackTraces = false) (dC : Nat → ClassId) (dI : Nat → Nat → Nat) (cI cZ : ClassId) (ad : Nat → Nat) (x : ST) (hI : CIn x) (a1 a2 : Int32) (hk : ¬ k_Plan_room x a1 a2 = 0) : MX l y_Plan_room (Cond.code y_Plan_room b_Plan_room 3 (some .int) :: BW) { frames := 7, cells := 1, slots := 6, locals := 104 } (PX (dC, dI) [(cI, .int), (cZ, .boolean)] (wC cI cZ ad x) [.ref (ad 0), .int a1, .int a2]) (TQ (xnm (k_Plan_room x a1 a2))) 1 6 (fun _ => False) := by
  refine MX.ofW (cc := b_Plan_room) (maxL := 3) (ret := (some .int)) (by decide) rfl ?_
  intro p e s m args below meth c s₁ B hml hex hv
  obtain ⟨hE, rfl, hP, hK, hN⟩ := hv
  have hx := B.exec
  have hb := B.bytes
  have hr := B.returns
  have hts := atoms_spec (ws := Cond.code y_Plan_room b_Plan_room 3 (some .int) :: BW) B.pre
  have hbw : ∀ w ∈ BW, w.before ([.ref (ad 0), .int a1, .int a2]).toArray s = true := fun w h => hts w (List.mem_cons_of_mem _ h)
  have hown : s.vm.findClass "PlanRows" = some m.cls := findClass_of_methodNamed B.named
  have hlocks := B.notSynchronized
  have hl := lv_entry ([.ref (ad 0), .int a1, .int a2]) (n := 3) (Nat.le_of_ble_eq_true rfl)
  rw [lg_entry_eq]
  generalize (lg_sl ([.ref (ad 0), .int a1, .int a2]) ++ List.replicate (3 - (lg_sl ([.ref (ad 0), .int a1, .int a2])).length) Slot.unset).toArray = ls at hl ⊢
  have hl : lv_has ls 3 [(0, .ref (ad 0)), (1, .int a1), (2, .int a2)] := hl
  refine lv_iload_n hx hb d_Plan_room_0 rfl (lv_at hl 2 rfl) ?_
  by_cases c_1 : k_Plan_wantKind a2 = 0
  · refine xs (As := [.int a2]) (rest := []) ⟨hx, hb, hml, hown, hts⟩ (c_Plan_wantKind l dC dI _ _ a2 c_1) (cw_Plan_74 hts rfl rfl ⟨Nat.le_of_ble_eq_true rfl, Nat.le_of_ble_eq_true rfl⟩) hK hN hP rfl hl.1 rfl (Nat.le_of_ble_eq_true rfl) d_Plan_room_1 ⟨Nat.zero_le _, Nat.zero_le _⟩ ?_
    refine lv_iload_n hx hb d_Plan_room_4 rfl (lv_at hl 1 rfl) ?_
    refine lv_iconst (v := 0) hx hb d_Plan_room_5 (by decide) ?_
    refine lv_bipush (v := 19) hx hb d_Plan_room_6 (by decide) ?_
    by_cases c_2 : k_Plan_wantWithin a1 0 19 = 0
    · refine xs (As := [.int a1, .int 0, .int 19]) (rest := []) ⟨hx, hb, hml, hown, hts⟩ (c_Plan_wantWithin l dC dI _ _ a1 0 19 c_2) (cw_Plan_78 hts rfl rfl ⟨Nat.le_of_ble_eq_true rfl, Nat.le_of_ble_eq_true rfl⟩) hK hN hP rfl hl.1 rfl (Nat.le_of_ble_eq_true rfl) d_Plan_room_8 ⟨Nat.zero_le _, Nat.zero_le _⟩ ?_
      refine lv_aload_n hx hb d_Plan_room_11 rfl (lv_at hl 0 rfl) ?_
      refine va_get (D := (dC, dI)) (ci := 8) (v := .ref (ad 1)) (C := R_Plan) (T := F_Plan) (N := 10) hx hb hbw in_Plan hown hK hP 0 rfl rfl 0 (by decide) (hbw _ w_192) (fun _ h9 => h9) rfl d_Plan_room_12 ?_
      refine lv_iload_n hx hb d_Plan_room_15 rfl (lv_at hl 1 rfl) ?_
      refine lv_iload_n hx hb d_Plan_room_16 rfl (lv_at hl 2 rfl) ?_
      by_cases c_3 : q_rn x < 40
      · exact absurd (show k_Plan_room x a1 a2 = 0 from by unfold k_Plan_room; rw [if_pos c_1, if_pos c_2, if_pos c_3]) hk
      · refine xv (As := [.int a1, .int a2]) (rest := []) (C := "PlanRows$Rooms") ⟨hx, hb, hml, hown, hts⟩ (p_Rooms_add l dC dI cI cZ ad x hI a1 a2 c_3) (cw_Plan_82 hts rfl rfl ⟨Nat.le_of_ble_eq_true rfl, Nat.le_of_ble_eq_true rfl⟩) hK hN hP 1 rfl rfl rfl rfl hl.1 rfl (Nat.le_of_ble_eq_true rfl) d_Plan_room_17 ⟨Nat.zero_le _, Nat.zero_le _⟩ ?_
        by_cases c_4 : k_Plan_wantAdded (-1) = 0
        · refine xs (As := [.int (-1)]) (rest := []) ⟨hx, hb, hml, hown, hts⟩ (c_Plan_wantAdded l dC dI _ _ (-1) c_4) (cw_Plan_86 hts rfl rfl ⟨Nat.le_of_ble_eq_true rfl, Nat.le_of_ble_eq_true rfl⟩) hK hN hP rfl hl.1 rfl (Nat.le_of_ble_eq_true rfl) d_Plan_room_20 ⟨Nat.zero_le _, Nat.zero_le _⟩ ?_
          exact absurd (show k_Plan_room x a1 a2 = 0 from by unfold k_Plan_room; rw [if_pos c_1, if_pos c_2, if_neg c_3, if_pos c_4]) hk
        · rw [show k_Plan_room x a1 a2 = 4 from by unfold k_Plan_room; rw [if_pos c_1, if_pos c_2, if_neg c_3, if_neg c_4]]
          exact x_thrown (x_runS (As := [.int (-1)]) (rest := []) ⟨hx, hb, hml, hown, hts⟩ (t_Plan_wantAdded l htr dC dI _ _ (-1) c_4) (cw_Plan_86 hts rfl rfl ⟨Nat.le_of_ble_eq_true rfl, Nat.le_of_ble_eq_true rfl⟩) ⟨PX.blind, PX.at hE hK hN hP⟩ rfl rfl hl.1 rfl (lv_room (Nat.le_of_ble_eq_true rfl)) d_Plan_room_20 ⟨Nat.le_of_ble_eq_true rfl, Nat.le_of_ble_eq_true rfl⟩) hex hlocks
    · rw [show k_Plan_room x a1 a2 = 2 from by unfold k_Plan_room; rw [if_pos c_1, if_neg c_2]]
      exact x_thrown (x_runS (As := [.int a1, .int 0, .int 19]) (rest := []) ⟨hx, hb, hml, hown, hts⟩ (t_Plan_wantWithin l htr dC dI _ _ a1 0 19 c_2) (cw_Plan_78 hts rfl rfl ⟨Nat.le_of_ble_eq_true rfl, Nat.le_of_ble_eq_true rfl⟩) ⟨PX.blind, PX.at hE hK hN hP⟩ rfl rfl hl.1 rfl (lv_room (Nat.le_of_ble_eq_true rfl)) d_Plan_room_8 ⟨Nat.le_of_ble_eq_true rfl, Nat.le_of_ble_eq_true rfl⟩) hex hlocks
  · rw [show k_Plan_room x a1 a2 = 1 from by unfold k_Plan_room; rw [if_neg c_1]]
    exact x_thrown (x_runS (As := [.int a2]) (rest := []) ⟨hx, hb, hml, hown, hts⟩ (t_Plan_wantKind l htr dC dI _ _ a2 c_1) (cw_Plan_74 hts rfl rfl ⟨Nat.le_of_ble_eq_true rfl, Nat.le_of_ble_eq_true rfl⟩) ⟨PX.blind, PX.at hE hK hN hP⟩ rfl rfl hl.1 rfl (lv_room (Nat.le_of_ble_eq_true rfl)) d_Plan_room_1 ⟨Nat.le_of_ble_eq_true rfl, Nat.le_of_ble_eq_true rfl⟩) hex hlocks
def g_Plan_room (x : ST) (a1 a2 : Int32) : Int32 × ST := if k_Plan_wantKind a2 = 0 then (if k_Plan_wantWithin a1 0 19 = 0 then (if q_rn x < 40 then (f_Plan_wantAdded ((g_Rooms_add x a1 a2).1), (g_Rooms_add x a1 a2).2) else (0, x)) else (0, x)) else (0, x)
set_option maxHeartbeats 400000 in
set_option maxRecDepth 100000 in
theorem u_Plan_room (l : Launch) (dC : Nat → ClassId) (dI : Nat → Nat → Nat) (cI cZ : ClassId) (ad : Nat → Nat) (hj : aInj 29 ad) (x : ST) (hI : CIn x) (sz : Nat) (a1 a2 : Int32) (hk : k_Plan_room x a1 a2 = 0) : MX l y_Plan_room (Cond.code y_Plan_room b_Plan_room 3 (some .int) :: BW) { frames := 1, cells := 0, slots := 0, locals := 22 } (PCZ sz (dC, dI) [(cI, .int), (cZ, .boolean)] (wC cI cZ ad x) [.ref (ad 0), .int a1, .int a2]) (UQ (some (.int (g_Plan_room x a1 a2).1)) (WB (dC, dI) [(cI, .int), (cZ, .boolean)] (wC cI cZ ad (g_Plan_room x a1 a2).2)) (aC 29 ad sz)) 0 0 (aC 29 ad sz) := by
  refine MX.ofW (cc := b_Plan_room) (maxL := 3) (ret := (some .int)) (by decide) rfl ?_
  intro p e s m args below meth c s₁ B hml hex hv
  obtain ⟨hsz, rfl, hP, hK, hN⟩ := hv
  subst hsz
  have hx := B.exec
  have hb := B.bytes
  have hr := B.returns
  have hts := atoms_spec (ws := Cond.code y_Plan_room b_Plan_room 3 (some .int) :: BW) B.pre
  have hbw : ∀ w ∈ BW, w.before ([.ref (ad 0), .int a1, .int a2]).toArray s = true := fun w h => hts w (List.mem_cons_of_mem _ h)
  have hown : s.vm.findClass "PlanRows" = some m.cls := findClass_of_methodNamed B.named
  have hlocks := B.notSynchronized
  have hDx : ∀ z, va_D (aC 29 ad s.heap.size) (wC cI cZ ad z) := fun z => w_D hj (wC_ad cI cZ ad z) _
  have hA : ∀ H : Heap, s.heap.size ≤ H.size → ∀ q, aC 29 ad H.size q → aC 29 ad s.heap.size q := fun H h => aC_le h
  generalize aC 29 ad s.heap.size = A at hDx hA ⊢
  have hD := hDx x
  have hS : va_S A s.heap s.heap [] := va_S.rf
  have hI0 := hI
  have hl := lv_entry ([.ref (ad 0), .int a1, .int a2]) (n := 3) (Nat.le_of_ble_eq_true rfl)
  rw [lg_entry_eq]
  generalize (lg_sl ([.ref (ad 0), .int a1, .int a2]) ++ List.replicate (3 - (lg_sl ([.ref (ad 0), .int a1, .int a2])).length) Slot.unset).toArray = ls at hl ⊢
  obtain ⟨H, hH⟩ : ∃ H, H = s.heap := ⟨_, rfl⟩
  obtain ⟨locs, hlocs⟩ : ∃ locs : List Loc, locs = [] := ⟨_, rfl⟩
  have hP : va_P (dC, dI) clsA (wC cI cZ ad x) H := by rw [hH]; exact hP
  have hS : va_S A s.heap H locs := by rw [hH, hlocs]; exact hS
  rw [← hlocs]
  have hW0 : ∀ (R : Room) (Q : State → Prop) (g : JFrame), W p l e R s m ([.ref (ad 0), .int a1, .int a2]).toArray below meth c H locs 0 0 Q g → W p l e R s m ([.ref (ad 0), .int a1, .int a2]).toArray below meth c s.heap locs 0 0 Q g := fun R Q g h => by rw [← hH]; exact h
  refine hW0 _ _ _ ?_
  have hl : lv_has ls 3 [(0, .ref (ad 0)), (1, .int a1), (2, .int a2)] := hl
  refine lv_iload_n hx hb d_Plan_room_0 rfl (lv_at hl 2 rfl) ?_
  by_cases c_1 : k_Plan_wantKind a2 = 0
  · refine xs (As := [.int a2]) (rest := []) ⟨hx, hb, hml, hown, hts⟩ (c_Plan_wantKind l dC dI _ _ a2 c_1) (cw_Plan_74 hts rfl rfl ⟨Nat.le_of_ble_eq_true rfl, Nat.le_of_ble_eq_true rfl⟩) hK hN hP rfl hl.1 rfl (Nat.le_of_ble_eq_true rfl) d_Plan_room_1 ⟨Nat.zero_le _, Nat.zero_le _⟩ ?_
    refine lv_iload_n hx hb d_Plan_room_4 rfl (lv_at hl 1 rfl) ?_
    refine lv_iconst (v := 0) hx hb d_Plan_room_5 (by decide) ?_
    refine lv_bipush (v := 19) hx hb d_Plan_room_6 (by decide) ?_
    by_cases c_2 : k_Plan_wantWithin a1 0 19 = 0
    · refine xs (As := [.int a1, .int 0, .int 19]) (rest := []) ⟨hx, hb, hml, hown, hts⟩ (c_Plan_wantWithin l dC dI _ _ a1 0 19 c_2) (cw_Plan_78 hts rfl rfl ⟨Nat.le_of_ble_eq_true rfl, Nat.le_of_ble_eq_true rfl⟩) hK hN hP rfl hl.1 rfl (Nat.le_of_ble_eq_true rfl) d_Plan_room_8 ⟨Nat.zero_le _, Nat.zero_le _⟩ ?_
      refine lv_aload_n hx hb d_Plan_room_11 rfl (lv_at hl 0 rfl) ?_
      refine va_get (D := (dC, dI)) (ci := 8) (v := .ref (ad 1)) (C := R_Plan) (T := F_Plan) (N := 10) hx hb hbw in_Plan hown hK hP 0 rfl rfl 0 (by decide) (hbw _ w_192) (fun _ h9 => h9) rfl d_Plan_room_12 ?_
      refine lv_iload_n hx hb d_Plan_room_15 rfl (lv_at hl 1 rfl) ?_
      refine lv_iload_n hx hb d_Plan_room_16 rfl (lv_at hl 2 rfl) ?_
      by_cases c_3 : q_rn x < 40
      · refine x_upd (x_runV (C := "PlanRows$Rooms") (b := (ad 1)) (As := [.int a1, .int a2]) (rest := []) ⟨hx, hb, hml, hown, hts⟩ (u_Rooms_add l dC dI cI cZ ad hj x hI H.size a1 a2) (cw_Plan_82 hts rfl rfl ⟨Nat.le_of_ble_eq_true rfl, Nat.le_of_ble_eq_true rfl⟩) ⟨PCZ.blind, va_recv hK hP (ci := 4) (q0 := 1) rfl rfl, PCZ.at hK hN hP⟩ rfl rfl hl.1 rfl (lv_room (Nat.le_of_ble_eq_true rfl)) d_Plan_room_17 ⟨Nat.zero_le _, Nat.zero_le _⟩) hS (fun q _ h => hA H hS.1 q h) (fun q h => hA H hS.1 q h) (fun t H1 locs ht hW hB hz1 hk1 hS => ?_)
        obtain ⟨hP, -, -⟩ := hB
        rw [ht] at hP
        generalize H1 = H at hP hS ⊢
        have hD : va_D A (wC cI cZ ad ((g_Rooms_add x a1 a2).2)) := hDx _
        refine xs (As := [.int ((g_Rooms_add x a1 a2).1)]) (rest := []) ⟨hx, hb, hml, hown, hts⟩ (c_Plan_wantAdded l dC dI _ _ ((g_Rooms_add x a1 a2).1) (ka_Rooms hI0 c_3 a1 a2)) (cw_Plan_86 hts rfl rfl ⟨Nat.le_of_ble_eq_true rfl, Nat.le_of_ble_eq_true rfl⟩) hK hN hP rfl hl.1 rfl (Nat.le_of_ble_eq_true rfl) d_Plan_room_20 ⟨Nat.zero_le _, Nat.zero_le _⟩ ?_
        have hg : g_Plan_room x a1 a2 = (f_Plan_wantAdded ((g_Rooms_add x a1 a2).1), (g_Rooms_add x a1 a2).2) := by unfold g_Plan_room; rw [if_pos c_1, if_pos c_2, if_pos c_3]
        exact W.toX (W.iret (v := f_Plan_wantAdded ((g_Rooms_add x a1 a2).1)) hx hb hr (fun t ht hW => ⟨by rw [hg], ⟨by rw [ht, hg]; exact hP, va_K.moved hW.alike hK, hN.warm hW⟩, hS.F ht⟩) hS.2.2 d_Plan_room_23)
      · exact absurd (show k_Plan_room x a1 a2 = 4 from by unfold k_Plan_room; rw [if_pos c_1, if_pos c_2, if_neg c_3]; decide) (by rw [hk]; decide)
    · exact absurd (show k_Plan_room x a1 a2 = 2 from by unfold k_Plan_room; rw [if_pos c_1, if_neg c_2]) (by rw [hk]; decide)
  · exact absurd (show k_Plan_room x a1 a2 = 1 from by unfold k_Plan_room; rw [if_neg c_1]) (by rw [hk]; decide)
def k_Plan_door (x : ST) (a1 a2 a3 a4 : Int32) : Nat := if k_Plan_wantRoom x a1 = 0 then (if k_Plan_wantRoom x a2 = 0 then (if k_Plan_wantWithin a3 1 500 = 0 then (if k_Plan_wantWithin a4 0 30 = 0 then (if a1 = a2 then 3 else (if (if 0 ≤ ((f_Rooms_floorOf x a1) - (f_Rooms_floorOf x a2)) then ((f_Rooms_floorOf x a1) - (f_Rooms_floorOf x a2)) else 0 - ((f_Rooms_floorOf x a1) - (f_Rooms_floorOf x a2))) ≤ 1 then (if q_dn x < 80 then 0 else (if k_Plan_wantAdded (-1) = 0 then 0 else 4)) else 3)) else 2) else 2) else 1) else 1
set_option maxHeartbeats 400000 in
set_option maxRecDepth 100000 in
theorem t_Plan_door (l : Launch) (htr : l.stackTraces = false) (dC : Nat → ClassId) (dI : Nat → Nat → Nat) (cI cZ : ClassId) (ad : Nat → Nat) (x : ST) (hI : CIn x) (a1 a2 a3 a4 : Int32) (hk : ¬ k_Plan_door x a1 a2 a3 a4 = 0) : MX l y_Plan_door (Cond.code y_Plan_door b_Plan_door 7 (some .int) :: BW) { frames := 7, cells := 1, slots := 6, locals := 104 } (PX (dC, dI) [(cI, .int), (cZ, .boolean)] (wC cI cZ ad x) [.ref (ad 0), .int a1, .int a2, .int a3, .int a4]) (TQ (xnm (k_Plan_door x a1 a2 a3 a4))) 1 6 (fun _ => False) := by
  refine MX.ofW (cc := b_Plan_door) (maxL := 7) (ret := (some .int)) (by decide) rfl ?_
  intro p e s m args below meth c s₁ B hml hex hv
  obtain ⟨hE, rfl, hP, hK, hN⟩ := hv
  have hx := B.exec
  have hb := B.bytes
  have hr := B.returns
  have hts := atoms_spec (ws := Cond.code y_Plan_door b_Plan_door 7 (some .int) :: BW) B.pre
  have hbw : ∀ w ∈ BW, w.before ([.ref (ad 0), .int a1, .int a2, .int a3, .int a4]).toArray s = true := fun w h => hts w (List.mem_cons_of_mem _ h)
  have hown : s.vm.findClass "PlanRows" = some m.cls := findClass_of_methodNamed B.named
  have hlocks := B.notSynchronized
  have hl := lv_entry ([.ref (ad 0), .int a1, .int a2, .int a3, .int a4]) (n := 7) (Nat.le_of_ble_eq_true rfl)
  rw [lg_entry_eq]
  generalize (lg_sl ([.ref (ad 0), .int a1, .int a2, .int a3, .int a4]) ++ List.replicate (7 - (lg_sl ([.ref (ad 0), .int a1, .int a2, .int a3, .int a4])).length) Slot.unset).toArray = ls at hl ⊢
  have hl : lv_has ls 7 [(0, .ref (ad 0)), (1, .int a1), (2, .int a2), (3, .int a3), (4, .int a4)] := hl
  refine lv_aload_n hx hb d_Plan_door_0 rfl (lv_at hl 0 rfl) ?_
  refine lv_iload_n hx hb d_Plan_door_1 rfl (lv_at hl 1 rfl) ?_
  by_cases c_1 : k_Plan_wantRoom x a1 = 0
  · refine xv (As := [.int a1]) (rest := []) (C := "PlanRows") ⟨hx, hb, hml, hown, hts⟩ (c_Plan_wantRoom l dC dI cI cZ ad x hI a1 c_1) (cw_Plan_90 hts rfl rfl ⟨Nat.le_of_ble_eq_true rfl, Nat.le_of_ble_eq_true rfl⟩) hK hN hP 0 rfl rfl rfl rfl hl.1 rfl (Nat.le_of_ble_eq_true rfl) d_Plan_door_2 ⟨Nat.zero_le _, Nat.zero_le _⟩ ?_
    refine lv_aload_n hx hb d_Plan_door_5 rfl (lv_at hl 0 rfl) ?_
    refine lv_iload_n hx hb d_Plan_door_6 rfl (lv_at hl 2 rfl) ?_
    by_cases c_2 : k_Plan_wantRoom x a2 = 0
    · refine xv (As := [.int a2]) (rest := []) (C := "PlanRows") ⟨hx, hb, hml, hown, hts⟩ (c_Plan_wantRoom l dC dI cI cZ ad x hI a2 c_2) (cw_Plan_90 hts rfl rfl ⟨Nat.le_of_ble_eq_true rfl, Nat.le_of_ble_eq_true rfl⟩) hK hN hP 0 rfl rfl rfl rfl hl.1 rfl (Nat.le_of_ble_eq_true rfl) d_Plan_door_7 ⟨Nat.zero_le _, Nat.zero_le _⟩ ?_
      refine lv_iload_n hx hb d_Plan_door_10 rfl (lv_at hl 3 rfl) ?_
      refine lv_iconst (v := 1) hx hb d_Plan_door_11 (by decide) ?_
      refine lv_sipush (v := 500) hx hb d_Plan_door_12 (by decide) ?_
      by_cases c_3 : k_Plan_wantWithin a3 1 500 = 0
      · refine xs (As := [.int a3, .int 1, .int 500]) (rest := []) ⟨hx, hb, hml, hown, hts⟩ (c_Plan_wantWithin l dC dI _ _ a3 1 500 c_3) (cw_Plan_78 hts rfl rfl ⟨Nat.le_of_ble_eq_true rfl, Nat.le_of_ble_eq_true rfl⟩) hK hN hP rfl hl.1 rfl (Nat.le_of_ble_eq_true rfl) d_Plan_door_15 ⟨Nat.zero_le _, Nat.zero_le _⟩ ?_
        refine lv_iload hx hb d_Plan_door_18 (lv_at hl 4 rfl) ?_
        refine lv_iconst (v := 0) hx hb d_Plan_door_20 (by decide) ?_
        refine lv_bipush (v := 30) hx hb d_Plan_door_21 (by decide) ?_
        by_cases c_4 : k_Plan_wantWithin a4 0 30 = 0
        · refine xs (As := [.int a4, .int 0, .int 30]) (rest := []) ⟨hx, hb, hml, hown, hts⟩ (c_Plan_wantWithin l dC dI _ _ a4 0 30 c_4) (cw_Plan_78 hts rfl rfl ⟨Nat.le_of_ble_eq_true rfl, Nat.le_of_ble_eq_true rfl⟩) hK hN hP rfl hl.1 rfl (Nat.le_of_ble_eq_true rfl) d_Plan_door_23 ⟨Nat.zero_le _, Nat.zero_le _⟩ ?_
          refine lv_aload_n hx hb d_Plan_door_26 rfl (lv_at hl 0 rfl) ?_
          refine va_get (D := (dC, dI)) (ci := 8) (v := .ref (ad 1)) (C := R_Plan) (T := F_Plan) (N := 10) hx hb hbw in_Plan hown hK hP 0 rfl rfl 0 (by decide) (hbw _ w_192) (fun _ h9 => h9) rfl d_Plan_door_27 ?_
          refine lv_iload_n hx hb d_Plan_door_30 rfl (lv_at hl 1 rfl) ?_
          refine xv (As := [.int a1]) (rest := []) (C := "PlanRows$Rooms") ⟨hx, hb, hml, hown, hts⟩ (c_Rooms_floorOf l dC dI cI cZ ad x hI a1) (cw_Plan_93 hts rfl rfl ⟨Nat.le_of_ble_eq_true rfl, Nat.le_of_ble_eq_true rfl⟩) hK hN hP 1 rfl rfl rfl rfl hl.1 rfl (Nat.le_of_ble_eq_true rfl) d_Plan_door_31 ⟨Nat.zero_le _, Nat.zero_le _⟩ ?_
          refine lv_aload_n hx hb d_Plan_door_34 rfl (lv_at hl 0 rfl) ?_
          refine va_get (D := (dC, dI)) (ci := 8) (v := .ref (ad 1)) (C := R_Plan) (T := F_Plan) (N := 10) hx hb hbw in_Plan hown hK hP 0 rfl rfl 0 (by decide) (hbw _ w_192) (fun _ h9 => h9) rfl d_Plan_door_35 ?_
          refine lv_iload_n hx hb d_Plan_door_38 rfl (lv_at hl 2 rfl) ?_
          refine xv (As := [.int a2]) (rest := [.int (f_Rooms_floorOf x a1)]) (C := "PlanRows$Rooms") ⟨hx, hb, hml, hown, hts⟩ (c_Rooms_floorOf l dC dI cI cZ ad x hI a2) (cw_Plan_93 hts rfl rfl ⟨Nat.le_of_ble_eq_true rfl, Nat.le_of_ble_eq_true rfl⟩) hK hN hP 1 rfl rfl rfl rfl hl.1 rfl (Nat.le_of_ble_eq_true rfl) d_Plan_door_39 ⟨Nat.zero_le _, Nat.zero_le _⟩ ?_
          refine lv_isub hx hb d_Plan_door_42 ?_
          refine va_mabs hx hb (hml.trans hl.1.symm) hown (hbw _ w_369) (hbw _ w_370) (hbw _ w_17) (hbw _ w_371) (Nat.le_of_ble_eq_true rfl) (Nat.le_of_ble_eq_true rfl) (Nat.zero_le _) (Nat.zero_le _) d_Plan_door_43 ?_
          refine lv_istore (lv' := [(5, .int (if 0 ≤ ((f_Rooms_floorOf x a1) - (f_Rooms_floorOf x a2)) then ((f_Rooms_floorOf x a1) - (f_Rooms_floorOf x a2)) else 0 - ((f_Rooms_floorOf x a1) - (f_Rooms_floorOf x a2)))), (0, .ref (ad 0)), (1, .int a1), (2, .int a2), (3, .int a3), (4, .int a4)]) hx hb d_Plan_door_46 hl (by decide) rfl (fun ls hl => ?_)
          refine lv_iload_n hx hb d_Plan_door_48 rfl (lv_at hl 2 rfl) ?_
          refine lv_iload_n hx hb d_Plan_door_49 rfl (lv_at hl 3 rfl) ?_
          refine lv_icmp_eq (tgt := 59) hx hb d_Plan_door_50 (by decide) (fun c_5 => ?_) (fun c_5 => ?_)
          · rw [show k_Plan_door x a1 a2 a3 a4 = 3 from by unfold k_Plan_door; rw [if_pos c_1, if_pos c_2, if_pos c_3, if_pos c_4, if_pos c_5]]
            obtain ⟨qs, hZ⟩ := hE.2.2.2 (103, "a door joins two rooms of the same or neighbouring floors") (by decide)
            exact x_throw (own := "PlanRows") (Xn := xnm 3) (tx := "a door joins two rooms of the same or neighbouring floors") (names := xup) (qs := qs) hx hb htr hown (by decide +kernel) (by decide +kernel) (hE.hat hbw ow_3) (hbw _ w_372) (hbw _ w_18) hZ hex hml hl.1 hlocks d_Plan_door_59 d_Plan_door_62 d_Plan_door_63 d_Plan_door_65 d_Plan_door_68 (Nat.le_of_ble_eq_true rfl) (Nat.le_of_ble_eq_true rfl) (Nat.le_of_ble_eq_true rfl) (Nat.le_of_ble_eq_true rfl)
          · refine lv_iload hx hb d_Plan_door_53 (lv_at hl 0 rfl) ?_
            refine lv_iconst (v := 1) hx hb d_Plan_door_55 (by decide) ?_
            refine lv_icmp_le (tgt := 69) hx hb d_Plan_door_56 (by decide) (fun c_6 => ?_) (fun c_6 => ?_)
            · refine lv_iload_n hx hb d_Plan_door_69 rfl (lv_at hl 4 rfl) ?_
              refine lv_bipush (v := 64) hx hb d_Plan_door_70 (by decide) ?_
              refine lv_imul hx hb d_Plan_door_72 ?_
              refine lv_iload hx hb d_Plan_door_73 (lv_at hl 0 rfl) ?_
              refine lv_iadd hx hb d_Plan_door_75 ?_
              refine lv_istore (lv' := [(6, .int ((a3 * 64) + (if 0 ≤ ((f_Rooms_floorOf x a1) - (f_Rooms_floorOf x a2)) then ((f_Rooms_floorOf x a1) - (f_Rooms_floorOf x a2)) else 0 - ((f_Rooms_floorOf x a1) - (f_Rooms_floorOf x a2))))), (5, .int (if 0 ≤ ((f_Rooms_floorOf x a1) - (f_Rooms_floorOf x a2)) then ((f_Rooms_floorOf x a1) - (f_Rooms_floorOf x a2)) else 0 - ((f_Rooms_floorOf x a1) - (f_Rooms_floorOf x a2)))), (0, .ref (ad 0)), (1, .int a1), (2, .int a2), (3, .int a3), (4, .int a4)]) hx hb d_Plan_door_76 hl (by decide) rfl (fun ls hl => ?_)
              refine lv_aload_n hx hb d_Plan_door_78 rfl (lv_at hl 2 rfl) ?_
              refine va_get (D := (dC, dI)) (ci := 8) (v := .ref (ad 2)) (C := R_Plan) (T := F_Plan) (N := 10) hx hb hbw in_Plan hown hK hP 0 rfl rfl 1 (by decide) (hbw _ w_193) (fun _ h9 => h9) rfl d_Plan_door_79 ?_
              refine lv_iload_n hx hb d_Plan_door_82 rfl (lv_at hl 3 rfl) ?_
              refine lv_iload_n hx hb d_Plan_door_83 rfl (lv_at hl 4 rfl) ?_
              refine lv_iload hx hb d_Plan_door_84 (lv_at hl 0 rfl) ?_
              refine lv_iload hx hb d_Plan_door_86 (lv_at hl 6 rfl) ?_
              by_cases c_7 : q_dn x < 80
              · exact absurd (show k_Plan_door x a1 a2 a3 a4 = 0 from by unfold k_Plan_door; rw [if_pos c_1, if_pos c_2, if_pos c_3, if_pos c_4, if_neg c_5, if_pos c_6, if_pos c_7]) hk
              · refine xv (As := [.int a1, .int a2, .int ((a3 * 64) + (if 0 ≤ ((f_Rooms_floorOf x a1) - (f_Rooms_floorOf x a2)) then ((f_Rooms_floorOf x a1) - (f_Rooms_floorOf x a2)) else 0 - ((f_Rooms_floorOf x a1) - (f_Rooms_floorOf x a2)))), .int a4]) (rest := []) (C := "PlanRows$Doors") ⟨hx, hb, hml, hown, hts⟩ (p_Doors_add l dC dI cI cZ ad x hI a1 a2 ((a3 * 64) + (if 0 ≤ ((f_Rooms_floorOf x a1) - (f_Rooms_floorOf x a2)) then ((f_Rooms_floorOf x a1) - (f_Rooms_floorOf x a2)) else 0 - ((f_Rooms_floorOf x a1) - (f_Rooms_floorOf x a2)))) a4 c_7) (cw_Plan_108 hts rfl rfl ⟨Nat.le_of_ble_eq_true rfl, Nat.le_of_ble_eq_true rfl⟩) hK hN hP 2 rfl rfl rfl rfl hl.1 rfl (Nat.le_of_ble_eq_true rfl) d_Plan_door_88 ⟨Nat.zero_le _, Nat.zero_le _⟩ ?_
                by_cases c_8 : k_Plan_wantAdded (-1) = 0
                · refine xs (As := [.int (-1)]) (rest := []) ⟨hx, hb, hml, hown, hts⟩ (c_Plan_wantAdded l dC dI _ _ (-1) c_8) (cw_Plan_86 hts rfl rfl ⟨Nat.le_of_ble_eq_true rfl, Nat.le_of_ble_eq_true rfl⟩) hK hN hP rfl hl.1 rfl (Nat.le_of_ble_eq_true rfl) d_Plan_door_91 ⟨Nat.zero_le _, Nat.zero_le _⟩ ?_
                  exact absurd (show k_Plan_door x a1 a2 a3 a4 = 0 from by unfold k_Plan_door; rw [if_pos c_1, if_pos c_2, if_pos c_3, if_pos c_4, if_neg c_5, if_pos c_6, if_neg c_7, if_pos c_8]) hk
                · rw [show k_Plan_door x a1 a2 a3 a4 = 4 from by unfold k_Plan_door; rw [if_pos c_1, if_pos c_2, if_pos c_3, if_pos c_4, if_neg c_5, if_pos c_6, if_neg c_7, if_neg c_8]]
                  exact x_thrown (x_runS (As := [.int (-1)]) (rest := []) ⟨hx, hb, hml, hown, hts⟩ (t_Plan_wantAdded l htr dC dI _ _ (-1) c_8) (cw_Plan_86 hts rfl rfl ⟨Nat.le_of_ble_eq_true rfl, Nat.le_of_ble_eq_true rfl⟩) ⟨PX.blind, PX.at hE hK hN hP⟩ rfl rfl hl.1 rfl (lv_room (Nat.le_of_ble_eq_true rfl)) d_Plan_door_91 ⟨Nat.le_of_ble_eq_true rfl, Nat.le_of_ble_eq_true rfl⟩) hex hlocks
            · rw [show k_Plan_door x a1 a2 a3 a4 = 3 from by unfold k_Plan_door; rw [if_pos c_1, if_pos c_2, if_pos c_3, if_pos c_4, if_neg c_5, if_neg c_6]]
              obtain ⟨qs, hZ⟩ := hE.2.2.2 (103, "a door joins two rooms of the same or neighbouring floors") (by decide)
              exact x_throw (own := "PlanRows") (Xn := xnm 3) (tx := "a door joins two rooms of the same or neighbouring floors") (names := xup) (qs := qs) hx hb htr hown (by decide +kernel) (by decide +kernel) (hE.hat hbw ow_3) (hbw _ w_372) (hbw _ w_18) hZ hex hml hl.1 hlocks d_Plan_door_59 d_Plan_door_62 d_Plan_door_63 d_Plan_door_65 d_Plan_door_68 (Nat.le_of_ble_eq_true rfl) (Nat.le_of_ble_eq_true rfl) (Nat.le_of_ble_eq_true rfl) (Nat.le_of_ble_eq_true rfl)
        · rw [show k_Plan_door x a1 a2 a3 a4 = 2 from by unfold k_Plan_door; rw [if_pos c_1, if_pos c_2, if_pos c_3, if_neg c_4]]
          exact x_thrown (x_runS (As := [.int a4, .int 0, .int 30]) (rest := []) ⟨hx, hb, hml, hown, hts⟩ (t_Plan_wantWithin l htr dC dI _ _ a4 0 30 c_4) (cw_Plan_78 hts rfl rfl ⟨Nat.le_of_ble_eq_true rfl, Nat.le_of_ble_eq_true rfl⟩) ⟨PX.blind, PX.at hE hK hN hP⟩ rfl rfl hl.1 rfl (lv_room (Nat.le_of_ble_eq_true rfl)) d_Plan_door_23 ⟨Nat.le_of_ble_eq_true rfl, Nat.le_of_ble_eq_true rfl⟩) hex hlocks
      · rw [show k_Plan_door x a1 a2 a3 a4 = 2 from by unfold k_Plan_door; rw [if_pos c_1, if_pos c_2, if_neg c_3]]
        exact x_thrown (x_runS (As := [.int a3, .int 1, .int 500]) (rest := []) ⟨hx, hb, hml, hown, hts⟩ (t_Plan_wantWithin l htr dC dI _ _ a3 1 500 c_3) (cw_Plan_78 hts rfl rfl ⟨Nat.le_of_ble_eq_true rfl, Nat.le_of_ble_eq_true rfl⟩) ⟨PX.blind, PX.at hE hK hN hP⟩ rfl rfl hl.1 rfl (lv_room (Nat.le_of_ble_eq_true rfl)) d_Plan_door_15 ⟨Nat.le_of_ble_eq_true rfl, Nat.le_of_ble_eq_true rfl⟩) hex hlocks
    · rw [show k_Plan_door x a1 a2 a3 a4 = 1 from by unfold k_Plan_door; rw [if_pos c_1, if_neg c_2]]
      exact x_thrown (x_runV (C := "PlanRows") (b := (ad 0)) (As := [.int a2]) (rest := []) ⟨hx, hb, hml, hown, hts⟩ (t_Plan_wantRoom l htr dC dI cI cZ ad x hI a2 c_2) (cw_Plan_90 hts rfl rfl ⟨Nat.le_of_ble_eq_true rfl, Nat.le_of_ble_eq_true rfl⟩) ⟨PX.blind, va_recv hK hP (ci := 8) (q0 := 0) rfl rfl, PX.at hE hK hN hP⟩ rfl rfl hl.1 rfl (lv_room (Nat.le_of_ble_eq_true rfl)) d_Plan_door_7 ⟨Nat.le_of_ble_eq_true rfl, Nat.le_of_ble_eq_true rfl⟩) hex hlocks
  · rw [show k_Plan_door x a1 a2 a3 a4 = 1 from by unfold k_Plan_door; rw [if_neg c_1]]
    exact x_thrown (x_runV (C := "PlanRows") (b := (ad 0)) (As := [.int a1]) (rest := []) ⟨hx, hb, hml, hown, hts⟩ (t_Plan_wantRoom l htr dC dI cI cZ ad x hI a1 c_1) (cw_Plan_90 hts rfl rfl ⟨Nat.le_of_ble_eq_true rfl, Nat.le_of_ble_eq_true rfl⟩) ⟨PX.blind, va_recv hK hP (ci := 8) (q0 := 0) rfl rfl, PX.at hE hK hN hP⟩ rfl rfl hl.1 rfl (lv_room (Nat.le_of_ble_eq_true rfl)) d_Plan_door_2 ⟨Nat.le_of_ble_eq_true rfl, Nat.le_of_ble_eq_true rfl⟩) hex hlocks
def g_Plan_door (x : ST) (a1 a2 a3 a4 : Int32) : Int32 × ST := if k_Plan_wantRoom x a1 = 0 then (if k_Plan_wantRoom x a2 = 0 then (if k_Plan_wantWithin a3 1 500 = 0 then (if k_Plan_wantWithin a4 0 30 = 0 then (if a1 = a2 then (0, x) else (if (if 0 ≤ ((f_Rooms_floorOf x a1) - (f_Rooms_floorOf x a2)) then ((f_Rooms_floorOf x a1) - (f_Rooms_floorOf x a2)) else 0 - ((f_Rooms_floorOf x a1) - (f_Rooms_floorOf x a2))) ≤ 1 then (if q_dn x < 80 then (f_Plan_wantAdded ((g_Doors_add x a1 a2 ((a3 * 64) + (if 0 ≤ ((f_Rooms_floorOf x a1) - (f_Rooms_floorOf x a2)) then ((f_Rooms_floorOf x a1) - (f_Rooms_floorOf x a2)) else 0 - ((f_Rooms_floorOf x a1) - (f_Rooms_floorOf x a2)))) a4).1), (g_Doors_add x a1 a2 ((a3 * 64) + (if 0 ≤ ((f_Rooms_floorOf x a1) - (f_Rooms_floorOf x a2)) then ((f_Rooms_floorOf x a1) - (f_Rooms_floorOf x a2)) else 0 - ((f_Rooms_floorOf x a1) - (f_Rooms_floorOf x a2)))) a4).2) else (0, x)) else (0, x))) else (0, x)) else (0, x)) else (0, x)) else (0, x)
set_option maxHeartbeats 400000 in
set_option maxRecDepth 100000 in
theorem u_Plan_door (l : Launch) (dC : Nat → ClassId) (dI : Nat → Nat → Nat) (cI cZ : ClassId) (ad : Nat → Nat) (hj : aInj 29 ad) (x : ST) (hI : CIn x) (sz : Nat) (a1 a2 a3 a4 : Int32) (hk : k_Plan_door x a1 a2 a3 a4 = 0) : MX l y_Plan_door (Cond.code y_Plan_door b_Plan_door 7 (some .int) :: BW) { frames := 2, cells := 0, slots := 0, locals := 42 } (PCZ sz (dC, dI) [(cI, .int), (cZ, .boolean)] (wC cI cZ ad x) [.ref (ad 0), .int a1, .int a2, .int a3, .int a4]) (UQ (some (.int (g_Plan_door x a1 a2 a3 a4).1)) (WB (dC, dI) [(cI, .int), (cZ, .boolean)] (wC cI cZ ad (g_Plan_door x a1 a2 a3 a4).2)) (aC 29 ad sz)) 0 0 (aC 29 ad sz) := by
  refine MX.ofW (cc := b_Plan_door) (maxL := 7) (ret := (some .int)) (by decide) rfl ?_
  intro p e s m args below meth c s₁ B hml hex hv
  obtain ⟨hsz, rfl, hP, hK, hN⟩ := hv
  subst hsz
  have hx := B.exec
  have hb := B.bytes
  have hr := B.returns
  have hts := atoms_spec (ws := Cond.code y_Plan_door b_Plan_door 7 (some .int) :: BW) B.pre
  have hbw : ∀ w ∈ BW, w.before ([.ref (ad 0), .int a1, .int a2, .int a3, .int a4]).toArray s = true := fun w h => hts w (List.mem_cons_of_mem _ h)
  have hown : s.vm.findClass "PlanRows" = some m.cls := findClass_of_methodNamed B.named
  have hlocks := B.notSynchronized
  have hDx : ∀ z, va_D (aC 29 ad s.heap.size) (wC cI cZ ad z) := fun z => w_D hj (wC_ad cI cZ ad z) _
  have hA : ∀ H : Heap, s.heap.size ≤ H.size → ∀ q, aC 29 ad H.size q → aC 29 ad s.heap.size q := fun H h => aC_le h
  generalize aC 29 ad s.heap.size = A at hDx hA ⊢
  have hD := hDx x
  have hS : va_S A s.heap s.heap [] := va_S.rf
  have hI0 := hI
  have hl := lv_entry ([.ref (ad 0), .int a1, .int a2, .int a3, .int a4]) (n := 7) (Nat.le_of_ble_eq_true rfl)
  rw [lg_entry_eq]
  generalize (lg_sl ([.ref (ad 0), .int a1, .int a2, .int a3, .int a4]) ++ List.replicate (7 - (lg_sl ([.ref (ad 0), .int a1, .int a2, .int a3, .int a4])).length) Slot.unset).toArray = ls at hl ⊢
  obtain ⟨H, hH⟩ : ∃ H, H = s.heap := ⟨_, rfl⟩
  obtain ⟨locs, hlocs⟩ : ∃ locs : List Loc, locs = [] := ⟨_, rfl⟩
  have hP : va_P (dC, dI) clsA (wC cI cZ ad x) H := by rw [hH]; exact hP
  have hS : va_S A s.heap H locs := by rw [hH, hlocs]; exact hS
  rw [← hlocs]
  have hW0 : ∀ (R : Room) (Q : State → Prop) (g : JFrame), W p l e R s m ([.ref (ad 0), .int a1, .int a2, .int a3, .int a4]).toArray below meth c H locs 0 0 Q g → W p l e R s m ([.ref (ad 0), .int a1, .int a2, .int a3, .int a4]).toArray below meth c s.heap locs 0 0 Q g := fun R Q g h => by rw [← hH]; exact h
  refine hW0 _ _ _ ?_
  have hl : lv_has ls 7 [(0, .ref (ad 0)), (1, .int a1), (2, .int a2), (3, .int a3), (4, .int a4)] := hl
  refine lv_aload_n hx hb d_Plan_door_0 rfl (lv_at hl 0 rfl) ?_
  refine lv_iload_n hx hb d_Plan_door_1 rfl (lv_at hl 1 rfl) ?_
  by_cases c_1 : k_Plan_wantRoom x a1 = 0
  · refine xv (As := [.int a1]) (rest := []) (C := "PlanRows") ⟨hx, hb, hml, hown, hts⟩ (c_Plan_wantRoom l dC dI cI cZ ad x hI a1 c_1) (cw_Plan_90 hts rfl rfl ⟨Nat.le_of_ble_eq_true rfl, Nat.le_of_ble_eq_true rfl⟩) hK hN hP 0 rfl rfl rfl rfl hl.1 rfl (Nat.le_of_ble_eq_true rfl) d_Plan_door_2 ⟨Nat.zero_le _, Nat.zero_le _⟩ ?_
    refine lv_aload_n hx hb d_Plan_door_5 rfl (lv_at hl 0 rfl) ?_
    refine lv_iload_n hx hb d_Plan_door_6 rfl (lv_at hl 2 rfl) ?_
    by_cases c_2 : k_Plan_wantRoom x a2 = 0
    · refine xv (As := [.int a2]) (rest := []) (C := "PlanRows") ⟨hx, hb, hml, hown, hts⟩ (c_Plan_wantRoom l dC dI cI cZ ad x hI a2 c_2) (cw_Plan_90 hts rfl rfl ⟨Nat.le_of_ble_eq_true rfl, Nat.le_of_ble_eq_true rfl⟩) hK hN hP 0 rfl rfl rfl rfl hl.1 rfl (Nat.le_of_ble_eq_true rfl) d_Plan_door_7 ⟨Nat.zero_le _, Nat.zero_le _⟩ ?_
      refine lv_iload_n hx hb d_Plan_door_10 rfl (lv_at hl 3 rfl) ?_
      refine lv_iconst (v := 1) hx hb d_Plan_door_11 (by decide) ?_
      refine lv_sipush (v := 500) hx hb d_Plan_door_12 (by decide) ?_
      by_cases c_3 : k_Plan_wantWithin a3 1 500 = 0
      · refine xs (As := [.int a3, .int 1, .int 500]) (rest := []) ⟨hx, hb, hml, hown, hts⟩ (c_Plan_wantWithin l dC dI _ _ a3 1 500 c_3) (cw_Plan_78 hts rfl rfl ⟨Nat.le_of_ble_eq_true rfl, Nat.le_of_ble_eq_true rfl⟩) hK hN hP rfl hl.1 rfl (Nat.le_of_ble_eq_true rfl) d_Plan_door_15 ⟨Nat.zero_le _, Nat.zero_le _⟩ ?_
        refine lv_iload hx hb d_Plan_door_18 (lv_at hl 4 rfl) ?_
        refine lv_iconst (v := 0) hx hb d_Plan_door_20 (by decide) ?_
        refine lv_bipush (v := 30) hx hb d_Plan_door_21 (by decide) ?_
        by_cases c_4 : k_Plan_wantWithin a4 0 30 = 0
        · refine xs (As := [.int a4, .int 0, .int 30]) (rest := []) ⟨hx, hb, hml, hown, hts⟩ (c_Plan_wantWithin l dC dI _ _ a4 0 30 c_4) (cw_Plan_78 hts rfl rfl ⟨Nat.le_of_ble_eq_true rfl, Nat.le_of_ble_eq_true rfl⟩) hK hN hP rfl hl.1 rfl (Nat.le_of_ble_eq_true rfl) d_Plan_door_23 ⟨Nat.zero_le _, Nat.zero_le _⟩ ?_
          refine lv_aload_n hx hb d_Plan_door_26 rfl (lv_at hl 0 rfl) ?_
          refine va_get (D := (dC, dI)) (ci := 8) (v := .ref (ad 1)) (C := R_Plan) (T := F_Plan) (N := 10) hx hb hbw in_Plan hown hK hP 0 rfl rfl 0 (by decide) (hbw _ w_192) (fun _ h9 => h9) rfl d_Plan_door_27 ?_
          refine lv_iload_n hx hb d_Plan_door_30 rfl (lv_at hl 1 rfl) ?_
          refine xv (As := [.int a1]) (rest := []) (C := "PlanRows$Rooms") ⟨hx, hb, hml, hown, hts⟩ (c_Rooms_floorOf l dC dI cI cZ ad x hI a1) (cw_Plan_93 hts rfl rfl ⟨Nat.le_of_ble_eq_true rfl, Nat.le_of_ble_eq_true rfl⟩) hK hN hP 1 rfl rfl rfl rfl hl.1 rfl (Nat.le_of_ble_eq_true rfl) d_Plan_door_31 ⟨Nat.zero_le _, Nat.zero_le _⟩ ?_
          refine lv_aload_n hx hb d_Plan_door_34 rfl (lv_at hl 0 rfl) ?_
          refine va_get (D := (dC, dI)) (ci := 8) (v := .ref (ad 1)) (C := R_Plan) (T := F_Plan) (N := 10) hx hb hbw in_Plan hown hK hP 0 rfl rfl 0 (by decide) (hbw _ w_192) (fun _ h9 => h9) rfl d_Plan_door_35 ?_
          refine lv_iload_n hx hb d_Plan_door_38 rfl (lv_at hl 2 rfl) ?_
          refine xv (As := [.int a2]) (rest := [.int (f_Rooms_floorOf x a1)]) (C := "PlanRows$Rooms") ⟨hx, hb, hml, hown, hts⟩ (c_Rooms_floorOf l dC dI cI cZ ad x hI a2) (cw_Plan_93 hts rfl rfl ⟨Nat.le_of_ble_eq_true rfl, Nat.le_of_ble_eq_true rfl⟩) hK hN hP 1 rfl rfl rfl rfl hl.1 rfl (Nat.le_of_ble_eq_true rfl) d_Plan_door_39 ⟨Nat.zero_le _, Nat.zero_le _⟩ ?_
          refine lv_isub hx hb d_Plan_door_42 ?_
          refine va_mabs hx hb (hml.trans hl.1.symm) hown (hbw _ w_369) (hbw _ w_370) (hbw _ w_17) (hbw _ w_371) (Nat.le_of_ble_eq_true rfl) (Nat.le_of_ble_eq_true rfl) (Nat.zero_le _) (Nat.zero_le _) d_Plan_door_43 ?_
          refine lv_istore (lv' := [(5, .int (if 0 ≤ ((f_Rooms_floorOf x a1) - (f_Rooms_floorOf x a2)) then ((f_Rooms_floorOf x a1) - (f_Rooms_floorOf x a2)) else 0 - ((f_Rooms_floorOf x a1) - (f_Rooms_floorOf x a2)))), (0, .ref (ad 0)), (1, .int a1), (2, .int a2), (3, .int a3), (4, .int a4)]) hx hb d_Plan_door_46 hl (by decide) rfl (fun ls hl => ?_)
          refine lv_iload_n hx hb d_Plan_door_48 rfl (lv_at hl 2 rfl) ?_
          refine lv_iload_n hx hb d_Plan_door_49 rfl (lv_at hl 3 rfl) ?_
          refine lv_icmp_eq (tgt := 59) hx hb d_Plan_door_50 (by decide) (fun c_5 => ?_) (fun c_5 => ?_)
          · exact absurd (show k_Plan_door x a1 a2 a3 a4 = 3 from by unfold k_Plan_door; rw [if_pos c_1, if_pos c_2, if_pos c_3, if_pos c_4, if_pos c_5]) (by rw [hk]; decide)
          · refine lv_iload hx hb d_Plan_door_53 (lv_at hl 0 rfl) ?_
            refine lv_iconst (v := 1) hx hb d_Plan_door_55 (by decide) ?_
            refine lv_icmp_le (tgt := 69) hx hb d_Plan_door_56 (by decide) (fun c_6 => ?_) (fun c_6 => ?_)
            · refine lv_iload_n hx hb d_Plan_door_69 rfl (lv_at hl 4 rfl) ?_
              refine lv_bipush (v := 64) hx hb d_Plan_door_70 (by decide) ?_
              refine lv_imul hx hb d_Plan_door_72 ?_
              refine lv_iload hx hb d_Plan_door_73 (lv_at hl 0 rfl) ?_
              refine lv_iadd hx hb d_Plan_door_75 ?_
              refine lv_istore (lv' := [(6, .int ((a3 * 64) + (if 0 ≤ ((f_Rooms_floorOf x a1) - (f_Rooms_floorOf x a2)) then ((f_Rooms_floorOf x a1) - (f_Rooms_floorOf x a2)) else 0 - ((f_Rooms_floorOf x a1) - (f_Rooms_floorOf x a2))))), (5, .int (if 0 ≤ ((f_Rooms_floorOf x a1) - (f_Rooms_floorOf x a2)) then ((f_Rooms_floorOf x a1) - (f_Rooms_floorOf x a2)) else 0 - ((f_Rooms_floorOf x a1) - (f_Rooms_floorOf x a2)))), (0, .ref (ad 0)), (1, .int a1), (2, .int a2), (3, .int a3), (4, .int a4)]) hx hb d_Plan_door_76 hl (by decide) rfl (fun ls hl => ?_)
              refine lv_aload_n hx hb d_Plan_door_78 rfl (lv_at hl 2 rfl) ?_
              refine va_get (D := (dC, dI)) (ci := 8) (v := .ref (ad 2)) (C := R_Plan) (T := F_Plan) (N := 10) hx hb hbw in_Plan hown hK hP 0 rfl rfl 1 (by decide) (hbw _ w_193) (fun _ h9 => h9) rfl d_Plan_door_79 ?_
              refine lv_iload_n hx hb d_Plan_door_82 rfl (lv_at hl 3 rfl) ?_
              refine lv_iload_n hx hb d_Plan_door_83 rfl (lv_at hl 4 rfl) ?_
              refine lv_iload hx hb d_Plan_door_84 (lv_at hl 0 rfl) ?_
              refine lv_iload hx hb d_Plan_door_86 (lv_at hl 6 rfl) ?_
              by_cases c_7 : q_dn x < 80
              · refine x_upd (x_runV (C := "PlanRows$Doors") (b := (ad 2)) (As := [.int a1, .int a2, .int ((a3 * 64) + (if 0 ≤ ((f_Rooms_floorOf x a1) - (f_Rooms_floorOf x a2)) then ((f_Rooms_floorOf x a1) - (f_Rooms_floorOf x a2)) else 0 - ((f_Rooms_floorOf x a1) - (f_Rooms_floorOf x a2)))), .int a4]) (rest := []) ⟨hx, hb, hml, hown, hts⟩ (u_Doors_add l dC dI cI cZ ad hj x hI H.size a1 a2 ((a3 * 64) + (if 0 ≤ ((f_Rooms_floorOf x a1) - (f_Rooms_floorOf x a2)) then ((f_Rooms_floorOf x a1) - (f_Rooms_floorOf x a2)) else 0 - ((f_Rooms_floorOf x a1) - (f_Rooms_floorOf x a2)))) a4) (cw_Plan_108 hts rfl rfl ⟨Nat.le_of_ble_eq_true rfl, Nat.le_of_ble_eq_true rfl⟩) ⟨PCZ.blind, va_recv hK hP (ci := 2) (q0 := 2) rfl rfl, PCZ.at hK hN hP⟩ rfl rfl hl.1 rfl (lv_room (Nat.le_of_ble_eq_true rfl)) d_Plan_door_88 ⟨Nat.zero_le _, Nat.zero_le _⟩) hS (fun q _ h => hA H hS.1 q h) (fun q h => hA H hS.1 q h) (fun t H1 locs ht hW hB hz1 hk1 hS => ?_)
                obtain ⟨hP, -, -⟩ := hB
                rw [ht] at hP
                generalize H1 = H at hP hS ⊢
                have hD : va_D A (wC cI cZ ad ((g_Doors_add x a1 a2 ((a3 * 64) + (if 0 ≤ ((f_Rooms_floorOf x a1) - (f_Rooms_floorOf x a2)) then ((f_Rooms_floorOf x a1) - (f_Rooms_floorOf x a2)) else 0 - ((f_Rooms_floorOf x a1) - (f_Rooms_floorOf x a2)))) a4).2)) := hDx _
                refine xs (As := [.int ((g_Doors_add x a1 a2 ((a3 * 64) + (if 0 ≤ ((f_Rooms_floorOf x a1) - (f_Rooms_floorOf x a2)) then ((f_Rooms_floorOf x a1) - (f_Rooms_floorOf x a2)) else 0 - ((f_Rooms_floorOf x a1) - (f_Rooms_floorOf x a2)))) a4).1)]) (rest := []) ⟨hx, hb, hml, hown, hts⟩ (c_Plan_wantAdded l dC dI _ _ ((g_Doors_add x a1 a2 ((a3 * 64) + (if 0 ≤ ((f_Rooms_floorOf x a1) - (f_Rooms_floorOf x a2)) then ((f_Rooms_floorOf x a1) - (f_Rooms_floorOf x a2)) else 0 - ((f_Rooms_floorOf x a1) - (f_Rooms_floorOf x a2)))) a4).1) (ka_Doors hI0 c_7 a1 a2 ((a3 * 64) + (if 0 ≤ ((f_Rooms_floorOf x a1) - (f_Rooms_floorOf x a2)) then ((f_Rooms_floorOf x a1) - (f_Rooms_floorOf x a2)) else 0 - ((f_Rooms_floorOf x a1) - (f_Rooms_floorOf x a2)))) a4)) (cw_Plan_86 hts rfl rfl ⟨Nat.le_of_ble_eq_true rfl, Nat.le_of_ble_eq_true rfl⟩) hK hN hP rfl hl.1 rfl (Nat.le_of_ble_eq_true rfl) d_Plan_door_91 ⟨Nat.zero_le _, Nat.zero_le _⟩ ?_
                have hg : g_Plan_door x a1 a2 a3 a4 = (f_Plan_wantAdded ((g_Doors_add x a1 a2 ((a3 * 64) + (if 0 ≤ ((f_Rooms_floorOf x a1) - (f_Rooms_floorOf x a2)) then ((f_Rooms_floorOf x a1) - (f_Rooms_floorOf x a2)) else 0 - ((f_Rooms_floorOf x a1) - (f_Rooms_floorOf x a2)))) a4).1), (g_Doors_add x a1 a2 ((a3 * 64) + (if 0 ≤ ((f_Rooms_floorOf x a1) - (f_Rooms_floorOf x a2)) then ((f_Rooms_floorOf x a1) - (f_Rooms_floorOf x a2)) else 0 - ((f_Rooms_floorOf x a1) - (f_Rooms_floorOf x a2)))) a4).2) := by unfold g_Plan_door; rw [if_pos c_1, if_pos c_2, if_pos c_3, if_pos c_4, if_neg c_5, if_pos c_6, if_pos c_7]
                exact W.toX (W.iret (v := f_Plan_wantAdded ((g_Doors_add x a1 a2 ((a3 * 64) + (if 0 ≤ ((f_Rooms_floorOf x a1) - (f_Rooms_floorOf x a2)) then ((f_Rooms_floorOf x a1) - (f_Rooms_floorOf x a2)) else 0 - ((f_Rooms_floorOf x a1) - (f_Rooms_floorOf x a2)))) a4).1)) hx hb hr (fun t ht hW => ⟨by rw [hg], ⟨by rw [ht, hg]; exact hP, va_K.moved hW.alike hK, hN.warm hW⟩, hS.F ht⟩) hS.2.2 d_Plan_door_94)
              · exact absurd (show k_Plan_door x a1 a2 a3 a4 = 4 from by unfold k_Plan_door; rw [if_pos c_1, if_pos c_2, if_pos c_3, if_pos c_4, if_neg c_5, if_pos c_6, if_neg c_7]; decide) (by rw [hk]; decide)
            · exact absurd (show k_Plan_door x a1 a2 a3 a4 = 3 from by unfold k_Plan_door; rw [if_pos c_1, if_pos c_2, if_pos c_3, if_pos c_4, if_neg c_5, if_neg c_6]) (by rw [hk]; decide)
        · exact absurd (show k_Plan_door x a1 a2 a3 a4 = 2 from by unfold k_Plan_door; rw [if_pos c_1, if_pos c_2, if_pos c_3, if_neg c_4]) (by rw [hk]; decide)
      · exact absurd (show k_Plan_door x a1 a2 a3 a4 = 2 from by unfold k_Plan_door; rw [if_pos c_1, if_pos c_2, if_neg c_3]) (by rw [hk]; decide)
    · exact absurd (show k_Plan_door x a1 a2 a3 a4 = 1 from by unfold k_Plan_door; rw [if_pos c_1, if_neg c_2]) (by rw [hk]; decide)
  · exact absurd (show k_Plan_door x a1 a2 a3 a4 = 1 from by unfold k_Plan_door; rw [if_neg c_1]) (by rw [hk]; decide)
def k_Plan_key (x : ST) (a1 a2 : Int32) : Nat := if (f_Keys_has x a1) = 0 then 1 else (if (f_Keys_isAtHand x a1) = a2 then 3 else 0)
set_option maxHeartbeats 400000 in
set_option maxRecDepth 100000 in
theorem t_Plan_key (l : Launch) (htr : l.stackTraces = false) (dC : Nat → ClassId) (dI : Nat → Nat → Nat) (cI cZ : ClassId) (ad : Nat → Nat) (x : ST) (hI : CIn x) (a1 a2 : Int32) (hk : ¬ k_Plan_key x a1 a2 = 0) : MX l y_Plan_key (Cond.code y_Plan_key b_Plan_key 3 none :: BW) { frames := 6, cells := 1, slots := 6, locals := 82 } (PX (dC, dI) [(cI, .int), (cZ, .boolean)] (wC cI cZ ad x) [.ref (ad 0), .int a1, .int a2]) (TQ (xnm (k_Plan_key x a1 a2))) 1 6 (fun _ => False) := by
  refine MX.ofW (cc := b_Plan_key) (maxL := 3) (ret := none) (by decide) rfl ?_
  intro p e s m args below meth c s₁ B hml hex hv
  obtain ⟨hE, rfl, hP, hK, hN⟩ := hv
  have hx := B.exec
  have hb := B.bytes
  have hr := B.returns
  have hts := atoms_spec (ws := Cond.code y_Plan_key b_Plan_key 3 none :: BW) B.pre
  have hbw : ∀ w ∈ BW, w.before ([.ref (ad 0), .int a1, .int a2]).toArray s = true := fun w h => hts w (List.mem_cons_of_mem _ h)
  have hown : s.vm.findClass "PlanRows" = some m.cls := findClass_of_methodNamed B.named
  have hlocks := B.notSynchronized
  have hl := lv_entry ([.ref (ad 0), .int a1, .int a2]) (n := 3) (Nat.le_of_ble_eq_true rfl)
  rw [lg_entry_eq]
  generalize (lg_sl ([.ref (ad 0), .int a1, .int a2]) ++ List.replicate (3 - (lg_sl ([.ref (ad 0), .int a1, .int a2])).length) Slot.unset).toArray = ls at hl ⊢
  have hl : lv_has ls 3 [(0, .ref (ad 0)), (1, .int a1), (2, .int a2)] := hl
  refine lv_aload_n hx hb d_Plan_key_0 rfl (lv_at hl 0 rfl) ?_
  refine va_get (D := (dC, dI)) (ci := 8) (v := .ref (ad 3)) (C := R_Plan) (T := F_Plan) (N := 10) hx hb hbw in_Plan hown hK hP 0 rfl rfl 2 (by decide) (hbw _ w_194) (fun _ h9 => h9) rfl d_Plan_key_1 ?_
  refine lv_iload_n hx hb d_Plan_key_4 rfl (lv_at hl 1 rfl) ?_
  refine xv (As := [.int a1]) (rest := []) (C := "PlanRows$KeyRing") ⟨hx, hb, hml, hown, hts⟩ (c_Keys_has l dC dI cI cZ ad x hI a1) (cw_Plan_111 hts rfl rfl ⟨Nat.le_of_ble_eq_true rfl, Nat.le_of_ble_eq_true rfl⟩) hK hN hP 3 rfl rfl rfl rfl hl.1 rfl (Nat.le_of_ble_eq_true rfl) d_Plan_key_5 ⟨Nat.zero_le _, Nat.zero_le _⟩ ?_
  refine lv_if_ne (tgt := 21) hx hb d_Plan_key_8 (by decide) (fun c_1 => ?_) (fun c_1 => ?_)
  · refine lv_aload_n hx hb d_Plan_key_21 rfl (lv_at hl 0 rfl) ?_
    refine va_get (D := (dC, dI)) (ci := 8) (v := .ref (ad 3)) (C := R_Plan) (T := F_Plan) (N := 10) hx hb hbw in_Plan hown hK hP 0 rfl rfl 2 (by decide) (hbw _ w_194) (fun _ h9 => h9) rfl d_Plan_key_22 ?_
    refine lv_iload_n hx hb d_Plan_key_25 rfl (lv_at hl 1 rfl) ?_
    refine xv (As := [.int a1]) (rest := []) (C := "PlanRows$KeyRing") ⟨hx, hb, hml, hown, hts⟩ (c_Keys_isAtHand l dC dI cI cZ ad x hI a1) (cw_Plan_120 hts rfl rfl ⟨Nat.le_of_ble_eq_true rfl, Nat.le_of_ble_eq_true rfl⟩) hK hN hP 3 rfl rfl rfl rfl hl.1 rfl (Nat.le_of_ble_eq_true rfl) d_Plan_key_26 ⟨Nat.zero_le _, Nat.zero_le _⟩ ?_
    refine lv_iload_n hx hb d_Plan_key_29 rfl (lv_at hl 2 rfl) ?_
    refine lv_icmp_ne (tgt := 43) hx hb d_Plan_key_30 (by decide) (fun c_2 => ?_) (fun c_2 => ?_)
    · refine lv_aload_n hx hb d_Plan_key_43 rfl (lv_at hl 0 rfl) ?_
      refine va_get (D := (dC, dI)) (ci := 8) (v := .ref (ad 3)) (C := R_Plan) (T := F_Plan) (N := 10) hx hb hbw in_Plan hown hK hP 0 rfl rfl 2 (by decide) (hbw _ w_194) (fun _ h9 => h9) rfl d_Plan_key_44 ?_
      refine lv_iload_n hx hb d_Plan_key_47 rfl (lv_at hl 1 rfl) ?_
      refine lv_iload_n hx hb d_Plan_key_48 rfl (lv_at hl 2 rfl) ?_
      exact absurd (show k_Plan_key x a1 a2 = 0 from by unfold k_Plan_key; rw [if_neg c_1, if_neg c_2]) hk
    · rw [show k_Plan_key x a1 a2 = 3 from by unfold k_Plan_key; rw [if_neg c_1, if_pos c_2]]
      obtain ⟨qs, hZ⟩ := hE.2.2.2 (123, "the key is so already") (by decide)
      exact x_throw (own := "PlanRows") (Xn := xnm 3) (tx := "the key is so already") (names := xup) (qs := qs) hx hb htr hown (by decide +kernel) (by decide +kernel) (hE.hat hbw ow_3) (hbw _ w_372) (hbw _ w_18) hZ hex hml hl.1 hlocks d_Plan_key_33 d_Plan_key_36 d_Plan_key_37 d_Plan_key_39 d_Plan_key_42 (Nat.le_of_ble_eq_true rfl) (Nat.le_of_ble_eq_true rfl) (Nat.le_of_ble_eq_true rfl) (Nat.le_of_ble_eq_true rfl)
  · rw [show k_Plan_key x a1 a2 = 1 from by unfold k_Plan_key; rw [if_pos c_1]]
    obtain ⟨qs, hZ⟩ := hE.2.2.2 (117, "no such key") (by decide)
    exact x_throw (own := "PlanRows") (Xn := xnm 1) (tx := "no such key") (names := xup) (qs := qs) hx hb htr hown (by decide +kernel) (by decide +kernel) (hE.hat hbw ow_1) (hbw _ w_236) (hbw _ w_14) hZ hex hml hl.1 hlocks d_Plan_key_11 d_Plan_key_14 d_Plan_key_15 d_Plan_key_17 d_Plan_key_20 (Nat.le_of_ble_eq_true rfl) (Nat.le_of_ble_eq_true rfl) (Nat.le_of_ble_eq_true rfl) (Nat.le_of_ble_eq_true rfl)
def g_Plan_key (x : ST) (a1 a2 : Int32) : Int32 × ST := if (f_Keys_has x a1) = 0 then (0, x) else (if (f_Keys_isAtHand x a1) = a2 then (0, x) else (0, (g_Keys_put x a1 a2).2))
set_option maxHeartbeats 400000 in
set_option maxRecDepth 100000 in
theorem u_Plan_key (l : Launch) (dC : Nat → ClassId) (dI : Nat → Nat → Nat) (cI cZ : ClassId) (ad : Nat → Nat) (hj : aInj 29 ad) (x : ST) (hI : CIn x) (sz : Nat) (a1 a2 : Int32) (hk : k_Plan_key x a1 a2 = 0) : MX l y_Plan_key (Cond.code y_Plan_key b_Plan_key 3 none :: BW) { frames := 2, cells := 0, slots := 0, locals := 43 } (PCZ sz (dC, dI) [(cI, .int), (cZ, .boolean)] (wC cI cZ ad x) [.ref (ad 0), .int a1, .int a2]) (UQ none (WB (dC, dI) [(cI, .int), (cZ, .boolean)] (wC cI cZ ad (g_Plan_key x a1 a2).2)) (aC 29 ad sz)) 0 0 (aC 29 ad sz) := by
  refine MX.ofW (cc := b_Plan_key) (maxL := 3) (ret := none) (by decide) rfl ?_
  intro p e s m args below meth c s₁ B hml hex hv
  obtain ⟨hsz, rfl, hP, hK, hN⟩ := hv
  subst hsz
  have hx := B.exec
  have hb := B.bytes
  have hr := B.returns
  have hts := atoms_spec (ws := Cond.code y_Plan_key b_Plan_key 3 none :: BW) B.pre
  have hbw : ∀ w ∈ BW, w.before ([.ref (ad 0), .int a1, .int a2]).toArray s = true := fun w h => hts w (List.mem_cons_of_mem _ h)
  have hown : s.vm.findClass "PlanRows" = some m.cls := findClass_of_methodNamed B.named
  have hlocks := B.notSynchronized
  have hDx : ∀ z, va_D (aC 29 ad s.heap.size) (wC cI cZ ad z) := fun z => w_D hj (wC_ad cI cZ ad z) _
  have hA : ∀ H : Heap, s.heap.size ≤ H.size → ∀ q, aC 29 ad H.size q → aC 29 ad s.heap.size q := fun H h => aC_le h
  generalize aC 29 ad s.heap.size = A at hDx hA ⊢
  have hD := hDx x
  have hS : va_S A s.heap s.heap [] := va_S.rf
  have hI0 := hI
  have hl := lv_entry ([.ref (ad 0), .int a1, .int a2]) (n := 3) (Nat.le_of_ble_eq_true rfl)
  rw [lg_entry_eq]
  generalize (lg_sl ([.ref (ad 0), .int a1, .int a2]) ++ List.replicate (3 - (lg_sl ([.ref (ad 0), .int a1, .int a2])).length) Slot.unset).toArray = ls at hl ⊢
  obtain ⟨H, hH⟩ : ∃ H, H = s.heap := ⟨_, rfl⟩
  obtain ⟨locs, hlocs⟩ : ∃ locs : List Loc, locs = [] := ⟨_, rfl⟩
  have hP : va_P (dC, dI) clsA (wC cI cZ ad x) H := by rw [hH]; exact hP
  have hS : va_S A s.heap H locs := by rw [hH, hlocs]; exact hS
  rw [← hlocs]
  have hW0 : ∀ (R : Room) (Q : State → Prop) (g : JFrame), W p l e R s m ([.ref (ad 0), .int a1, .int a2]).toArray below meth c H locs 0 0 Q g → W p l e R s m ([.ref (ad 0), .int a1, .int a2]).toArray below meth c s.heap locs 0 0 Q g := fun R Q g h => by rw [← hH]; exact h
  refine hW0 _ _ _ ?_
  have hl : lv_has ls 3 [(0, .ref (ad 0)), (1, .int a1), (2, .int a2)] := hl
  refine lv_aload_n hx hb d_Plan_key_0 rfl (lv_at hl 0 rfl) ?_
  refine va_get (D := (dC, dI)) (ci := 8) (v := .ref (ad 3)) (C := R_Plan) (T := F_Plan) (N := 10) hx hb hbw in_Plan hown hK hP 0 rfl rfl 2 (by decide) (hbw _ w_194) (fun _ h9 => h9) rfl d_Plan_key_1 ?_
  refine lv_iload_n hx hb d_Plan_key_4 rfl (lv_at hl 1 rfl) ?_
  refine xv (As := [.int a1]) (rest := []) (C := "PlanRows$KeyRing") ⟨hx, hb, hml, hown, hts⟩ (c_Keys_has l dC dI cI cZ ad x hI a1) (cw_Plan_111 hts rfl rfl ⟨Nat.le_of_ble_eq_true rfl, Nat.le_of_ble_eq_true rfl⟩) hK hN hP 3 rfl rfl rfl rfl hl.1 rfl (Nat.le_of_ble_eq_true rfl) d_Plan_key_5 ⟨Nat.zero_le _, Nat.zero_le _⟩ ?_
  refine lv_if_ne (tgt := 21) hx hb d_Plan_key_8 (by decide) (fun c_1 => ?_) (fun c_1 => ?_)
  · refine lv_aload_n hx hb d_Plan_key_21 rfl (lv_at hl 0 rfl) ?_
    refine va_get (D := (dC, dI)) (ci := 8) (v := .ref (ad 3)) (C := R_Plan) (T := F_Plan) (N := 10) hx hb hbw in_Plan hown hK hP 0 rfl rfl 2 (by decide) (hbw _ w_194) (fun _ h9 => h9) rfl d_Plan_key_22 ?_
    refine lv_iload_n hx hb d_Plan_key_25 rfl (lv_at hl 1 rfl) ?_
    refine xv (As := [.int a1]) (rest := []) (C := "PlanRows$KeyRing") ⟨hx, hb, hml, hown, hts⟩ (c_Keys_isAtHand l dC dI cI cZ ad x hI a1) (cw_Plan_120 hts rfl rfl ⟨Nat.le_of_ble_eq_true rfl, Nat.le_of_ble_eq_true rfl⟩) hK hN hP 3 rfl rfl rfl rfl hl.1 rfl (Nat.le_of_ble_eq_true rfl) d_Plan_key_26 ⟨Nat.zero_le _, Nat.zero_le _⟩ ?_
    refine lv_iload_n hx hb d_Plan_key_29 rfl (lv_at hl 2 rfl) ?_
    refine lv_icmp_ne (tgt := 43) hx hb d_Plan_key_30 (by decide) (fun c_2 => ?_) (fun c_2 => ?_)
    · refine lv_aload_n hx hb d_Plan_key_43 rfl (lv_at hl 0 rfl) ?_
      refine va_get (D := (dC, dI)) (ci := 8) (v := .ref (ad 3)) (C := R_Plan) (T := F_Plan) (N := 10) hx hb hbw in_Plan hown hK hP 0 rfl rfl 2 (by decide) (hbw _ w_194) (fun _ h9 => h9) rfl d_Plan_key_44 ?_
      refine lv_iload_n hx hb d_Plan_key_47 rfl (lv_at hl 1 rfl) ?_
      refine lv_iload_n hx hb d_Plan_key_48 rfl (lv_at hl 2 rfl) ?_
      refine x_upd (x_runV (C := "PlanRows$KeyRing") (b := (ad 3)) (As := [.int a1, .int a2]) (rest := []) ⟨hx, hb, hml, hown, hts⟩ (u_Keys_put l dC dI cI cZ ad hj x hI H.size a1 a2) (cw_Plan_125 hts rfl rfl ⟨Nat.le_of_ble_eq_true rfl, Nat.le_of_ble_eq_true rfl⟩) ⟨PCZ.blind, va_recv hK hP (ci := 3) (q0 := 3) rfl rfl, PCZ.at hK hN hP⟩ rfl rfl hl.1 rfl (lv_room (Nat.le_of_ble_eq_true rfl)) d_Plan_key_49 ⟨Nat.zero_le _, Nat.zero_le _⟩) hS (fun q _ h => hA H hS.1 q h) (fun q h => hA H hS.1 q h) (fun t H1 locs ht hW hB hz1 hk1 hS => ?_)
      obtain ⟨hP, -, -⟩ := hB
      rw [ht] at hP
      generalize H1 = H at hP hS ⊢
      have hD : va_D A (wC cI cZ ad ((g_Keys_put x a1 a2).2)) := hDx _
      have hg : g_Plan_key x a1 a2 = (0, (g_Keys_put x a1 a2).2) := by unfold g_Plan_key; rw [if_neg c_1, if_neg c_2]
      exact W.toX (W.vret hx hb hr (fun t ht hW => ⟨rfl, ⟨by rw [ht, hg]; exact hP, va_K.moved hW.alike hK, hN.warm hW⟩, hS.F ht⟩) hS.2.2 d_Plan_key_52)
    · exact absurd (show k_Plan_key x a1 a2 = 3 from by unfold k_Plan_key; rw [if_neg c_1, if_pos c_2]) (by rw [hk]; decide)
  · exact absurd (show k_Plan_key x a1 a2 = 1 from by unfold k_Plan_key; rw [if_pos c_1]) (by rw [hk]; decide)
def k_Plan_hazard (x : ST) (a1 a2 : Int32) : Nat := if k_Plan_wantRoom x a1 = 0 then (if k_Plan_wantWithin a2 0 255 = 0 then 0 else 2) else 1
set_option maxHeartbeats 400000 in
set_option maxRecDepth 100000 in
theorem t_Plan_hazard (l : Launch) (htr : l.stackTraces = false) (dC : Nat → ClassId) (dI : Nat → Nat → Nat) (cI cZ : ClassId) (ad : Nat → Nat) (x : ST) (hI : CIn x) (a1 a2 : Int32) (hk : ¬ k_Plan_hazard x a1 a2 = 0) : MX l y_Plan_hazard (Cond.code y_Plan_hazard b_Plan_hazard 3 none :: BW) { frames := 7, cells := 1, slots := 6, locals := 104 } (PX (dC, dI) [(cI, .int), (cZ, .boolean)] (wC cI cZ ad x) [.ref (ad 0), .int a1, .int a2]) (TQ (xnm (k_Plan_hazard x a1 a2))) 1 6 (fun _ => False) := by
  refine MX.ofW (cc := b_Plan_hazard) (maxL := 3) (ret := none) (by decide) rfl ?_
  intro p e s m args below meth c s₁ B hml hex hv
  obtain ⟨hE, rfl, hP, hK, hN⟩ := hv
  have hx := B.exec
  have hb := B.bytes
  have hr := B.returns
  have hts := atoms_spec (ws := Cond.code y_Plan_hazard b_Plan_hazard 3 none :: BW) B.pre
  have hbw : ∀ w ∈ BW, w.before ([.ref (ad 0), .int a1, .int a2]).toArray s = true := fun w h => hts w (List.mem_cons_of_mem _ h)
  have hown : s.vm.findClass "PlanRows" = some m.cls := findClass_of_methodNamed B.named
  have hlocks := B.notSynchronized
  have hl := lv_entry ([.ref (ad 0), .int a1, .int a2]) (n := 3) (Nat.le_of_ble_eq_true rfl)
  rw [lg_entry_eq]
  generalize (lg_sl ([.ref (ad 0), .int a1, .int a2]) ++ List.replicate (3 - (lg_sl ([.ref (ad 0), .int a1, .int a2])).length) Slot.unset).toArray = ls at hl ⊢
  have hl : lv_has ls 3 [(0, .ref (ad 0)), (1, .int a1), (2, .int a2)] := hl
  refine lv_aload_n hx hb d_Plan_hazard_0 rfl (lv_at hl 0 rfl) ?_
  refine lv_iload_n hx hb d_Plan_hazard_1 rfl (lv_at hl 1 rfl) ?_
  by_cases c_1 : k_Plan_wantRoom x a1 = 0
  · refine xv (As := [.int a1]) (rest := []) (C := "PlanRows") ⟨hx, hb, hml, hown, hts⟩ (c_Plan_wantRoom l dC dI cI cZ ad x hI a1 c_1) (cw_Plan_90 hts rfl rfl ⟨Nat.le_of_ble_eq_true rfl, Nat.le_of_ble_eq_true rfl⟩) hK hN hP 0 rfl rfl rfl rfl hl.1 rfl (Nat.le_of_ble_eq_true rfl) d_Plan_hazard_2 ⟨Nat.zero_le _, Nat.zero_le _⟩ ?_
    refine lv_iload_n hx hb d_Plan_hazard_5 rfl (lv_at hl 2 rfl) ?_
    refine lv_iconst (v := 0) hx hb d_Plan_hazard_6 (by decide) ?_
    refine lv_sipush (v := 255) hx hb d_Plan_hazard_7 (by decide) ?_
    by_cases c_2 : k_Plan_wantWithin a2 0 255 = 0
    · refine xs (As := [.int a2, .int 0, .int 255]) (rest := []) ⟨hx, hb, hml, hown, hts⟩ (c_Plan_wantWithin l dC dI _ _ a2 0 255 c_2) (cw_Plan_78 hts rfl rfl ⟨Nat.le_of_ble_eq_true rfl, Nat.le_of_ble_eq_true rfl⟩) hK hN hP rfl hl.1 rfl (Nat.le_of_ble_eq_true rfl) d_Plan_hazard_10 ⟨Nat.zero_le _, Nat.zero_le _⟩ ?_
      refine lv_aload_n hx hb d_Plan_hazard_13 rfl (lv_at hl 0 rfl) ?_
      refine va_get (D := (dC, dI)) (ci := 8) (v := .ref (ad 1)) (C := R_Plan) (T := F_Plan) (N := 10) hx hb hbw in_Plan hown hK hP 0 rfl rfl 0 (by decide) (hbw _ w_192) (fun _ h9 => h9) rfl d_Plan_hazard_14 ?_
      refine lv_iload_n hx hb d_Plan_hazard_17 rfl (lv_at hl 1 rfl) ?_
      refine lv_iload_n hx hb d_Plan_hazard_18 rfl (lv_at hl 2 rfl) ?_
      exact absurd (show k_Plan_hazard x a1 a2 = 0 from by unfold k_Plan_hazard; rw [if_pos c_1, if_pos c_2]) hk
    · rw [show k_Plan_hazard x a1 a2 = 2 from by unfold k_Plan_hazard; rw [if_pos c_1, if_neg c_2]]
      exact x_thrown (x_runS (As := [.int a2, .int 0, .int 255]) (rest := []) ⟨hx, hb, hml, hown, hts⟩ (t_Plan_wantWithin l htr dC dI _ _ a2 0 255 c_2) (cw_Plan_78 hts rfl rfl ⟨Nat.le_of_ble_eq_true rfl, Nat.le_of_ble_eq_true rfl⟩) ⟨PX.blind, PX.at hE hK hN hP⟩ rfl rfl hl.1 rfl (lv_room (Nat.le_of_ble_eq_true rfl)) d_Plan_hazard_10 ⟨Nat.le_of_ble_eq_true rfl, Nat.le_of_ble_eq_true rfl⟩) hex hlocks
  · rw [show k_Plan_hazard x a1 a2 = 1 from by unfold k_Plan_hazard; rw [if_neg c_1]]
    exact x_thrown (x_runV (C := "PlanRows") (b := (ad 0)) (As := [.int a1]) (rest := []) ⟨hx, hb, hml, hown, hts⟩ (t_Plan_wantRoom l htr dC dI cI cZ ad x hI a1 c_1) (cw_Plan_90 hts rfl rfl ⟨Nat.le_of_ble_eq_true rfl, Nat.le_of_ble_eq_true rfl⟩) ⟨PX.blind, va_recv hK hP (ci := 8) (q0 := 0) rfl rfl, PX.at hE hK hN hP⟩ rfl rfl hl.1 rfl (lv_room (Nat.le_of_ble_eq_true rfl)) d_Plan_hazard_2 ⟨Nat.le_of_ble_eq_true rfl, Nat.le_of_ble_eq_true rfl⟩) hex hlocks
def g_Plan_hazard (x : ST) (a1 a2 : Int32) : Int32 × ST := if k_Plan_wantRoom x a1 = 0 then (if k_Plan_wantWithin a2 0 255 = 0 then (0, (g_Rooms_setHazards x a1 a2).2) else (0, x)) else (0, x)
set_option maxHeartbeats 400000 in
set_option maxRecDepth 100000 in
theorem u_Plan_hazard (l : Launch) (dC : Nat → ClassId) (dI : Nat → Nat → Nat) (cI cZ : ClassId) (ad : Nat → Nat) (hj : aInj 29 ad) (x : ST) (hI : CIn x) (sz : Nat) (a1 a2 : Int32) (hk : k_Plan_hazard x a1 a2 = 0) : MX l y_Plan_hazard (Cond.code y_Plan_hazard b_Plan_hazard 3 none :: BW) { frames := 2, cells := 0, slots := 0, locals := 43 } (PCZ sz (dC, dI) [(cI, .int), (cZ, .boolean)] (wC cI cZ ad x) [.ref (ad 0), .int a1, .int a2]) (UQ none (WB (dC, dI) [(cI, .int), (cZ, .boolean)] (wC cI cZ ad (g_Plan_hazard x a1 a2).2)) (aC 29 ad sz)) 0 0 (aC 29 ad sz) := by
  refine MX.ofW (cc := b_Plan_hazard) (maxL := 3) (ret := none) (by decide) rfl ?_
  intro p e s m args below meth c s₁ B hml hex hv
  obtain ⟨hsz, rfl, hP, hK, hN⟩ := hv
  subst hsz
  have hx := B.exec
  have hb := B.bytes
  have hr := B.returns
  have hts := atoms_spec (ws := Cond.code y_Plan_hazard b_Plan_hazard 3 none :: BW) B.pre
  have hbw : ∀ w ∈ BW, w.before ([.ref (ad 0), .int a1, .int a2]).toArray s = true := fun w h => hts w (List.mem_cons_of_mem _ h)
  have hown : s.vm.findClass "PlanRows" = some m.cls := findClass_of_methodNamed B.named
  have hlocks := B.notSynchronized
  have hDx : ∀ z, va_D (aC 29 ad s.heap.size) (wC cI cZ ad z) := fun z => w_D hj (wC_ad cI cZ ad z) _
  have hA : ∀ H : Heap, s.heap.size ≤ H.size → ∀ q, aC 29 ad H.size q → aC 29 ad s.heap.size q := fun H h => aC_le h
  generalize aC 29 ad s.heap.size = A at hDx hA ⊢
  have hD := hDx x
  have hS : va_S A s.heap s.heap [] := va_S.rf
  have hI0 := hI
  have hl := lv_entry ([.ref (ad 0), .int a1, .int a2]) (n := 3) (Nat.le_of_ble_eq_true rfl)
  rw [lg_entry_eq]
  generalize (lg_sl ([.ref (ad 0), .int a1, .int a2]) ++ List.replicate (3 - (lg_sl ([.ref (ad 0), .int a1, .int a2])).length) Slot.unset).toArray = ls at hl ⊢
  obtain ⟨H, hH⟩ : ∃ H, H = s.heap := ⟨_, rfl⟩
  obtain ⟨locs, hlocs⟩ : ∃ locs : List Loc, locs = [] := ⟨_, rfl⟩
  have hP : va_P (dC, dI) clsA (wC cI cZ ad x) H := by rw [hH]; exact hP
  have hS : va_S A s.heap H locs := by rw [hH, hlocs]; exact hS
  rw [← hlocs]
  have hW0 : ∀ (R : Room) (Q : State → Prop) (g : JFrame), W p l e R s m ([.ref (ad 0), .int a1, .int a2]).toArray below meth c H locs 0 0 Q g → W p l e R s m ([.ref (ad 0), .int a1, .int a2]).toArray below meth c s.heap locs 0 0 Q g := fun R Q g h => by rw [← hH]; exact h
  refine hW0 _ _ _ ?_
  have hl : lv_has ls 3 [(0, .ref (ad 0)), (1, .int a1), (2, .int a2)] := hl
  refine lv_aload_n hx hb d_Plan_hazard_0 rfl (lv_at hl 0 rfl) ?_
  refine lv_iload_n hx hb d_Plan_hazard_1 rfl (lv_at hl 1 rfl) ?_
  by_cases c_1 : k_Plan_wantRoom x a1 = 0
  · refine xv (As := [.int a1]) (rest := []) (C := "PlanRows") ⟨hx, hb, hml, hown, hts⟩ (c_Plan_wantRoom l dC dI cI cZ ad x hI a1 c_1) (cw_Plan_90 hts rfl rfl ⟨Nat.le_of_ble_eq_true rfl, Nat.le_of_ble_eq_true rfl⟩) hK hN hP 0 rfl rfl rfl rfl hl.1 rfl (Nat.le_of_ble_eq_true rfl) d_Plan_hazard_2 ⟨Nat.zero_le _, Nat.zero_le _⟩ ?_
    refine lv_iload_n hx hb d_Plan_hazard_5 rfl (lv_at hl 2 rfl) ?_
    refine lv_iconst (v := 0) hx hb d_Plan_hazard_6 (by decide) ?_
    refine lv_sipush (v := 255) hx hb d_Plan_hazard_7 (by decide) ?_
    by_cases c_2 : k_Plan_wantWithin a2 0 255 = 0
    · refine xs (As := [.int a2, .int 0, .int 255]) (rest := []) ⟨hx, hb, hml, hown, hts⟩ (c_Plan_wantWithin l dC dI _ _ a2 0 255 c_2) (cw_Plan_78 hts rfl rfl ⟨Nat.le_of_ble_eq_true rfl, Nat.le_of_ble_eq_true rfl⟩) hK hN hP rfl hl.1 rfl (Nat.le_of_ble_eq_true rfl) d_Plan_hazard_10 ⟨Nat.zero_le _, Nat.zero_le _⟩ ?_
      refine lv_aload_n hx hb d_Plan_hazard_13 rfl (lv_at hl 0 rfl) ?_
      refine va_get (D := (dC, dI)) (ci := 8) (v := .ref (ad 1)) (C := R_Plan) (T := F_Plan) (N := 10) hx hb hbw in_Plan hown hK hP 0 rfl rfl 0 (by decide) (hbw _ w_192) (fun _ h9 => h9) rfl d_Plan_hazard_14 ?_
      refine lv_iload_n hx hb d_Plan_hazard_17 rfl (lv_at hl 1 rfl) ?_
      refine lv_iload_n hx hb d_Plan_hazard_18 rfl (lv_at hl 2 rfl) ?_
      refine x_upd (x_runV (C := "PlanRows$Rooms") (b := (ad 1)) (As := [.int a1, .int a2]) (rest := []) ⟨hx, hb, hml, hown, hts⟩ (u_Rooms_setHazards l dC dI cI cZ ad hj x hI H.size a1 a2) (cw_Plan_129 hts rfl rfl ⟨Nat.le_of_ble_eq_true rfl, Nat.le_of_ble_eq_true rfl⟩) ⟨PCZ.blind, va_recv hK hP (ci := 4) (q0 := 1) rfl rfl, PCZ.at hK hN hP⟩ rfl rfl hl.1 rfl (lv_room (Nat.le_of_ble_eq_true rfl)) d_Plan_hazard_19 ⟨Nat.zero_le _, Nat.zero_le _⟩) hS (fun q _ h => hA H hS.1 q h) (fun q h => hA H hS.1 q h) (fun t H1 locs ht hW hB hz1 hk1 hS => ?_)
      obtain ⟨hP, -, -⟩ := hB
      rw [ht] at hP
      generalize H1 = H at hP hS ⊢
      have hD : va_D A (wC cI cZ ad ((g_Rooms_setHazards x a1 a2).2)) := hDx _
      have hg : g_Plan_hazard x a1 a2 = (0, (g_Rooms_setHazards x a1 a2).2) := by unfold g_Plan_hazard; rw [if_pos c_1, if_pos c_2]
      exact W.toX (W.vret hx hb hr (fun t ht hW => ⟨rfl, ⟨by rw [ht, hg]; exact hP, va_K.moved hW.alike hK, hN.warm hW⟩, hS.F ht⟩) hS.2.2 d_Plan_hazard_22)
    · exact absurd (show k_Plan_hazard x a1 a2 = 2 from by unfold k_Plan_hazard; rw [if_pos c_1, if_neg c_2]) (by rw [hk]; decide)
  · exact absurd (show k_Plan_hazard x a1 a2 = 1 from by unfold k_Plan_hazard; rw [if_neg c_1]) (by rw [hk]; decide)
def k_Plan_detector (x : ST) (a1 a2 a3 : Int32) : Nat := if k_Plan_wantRoom x a3 = 0 then (if k_Plan_wantWithin a1 1 9 = 0 then (if k_Plan_wantWithin a2 1 99 = 0 then (if (f_Det_roomOf x a1 a2) = (-1) then (if q_tc x < 100 then 0 else (if k_Plan_wantAdded (-1) = 0 then 0 else 4)) else 3) else 2) else 2) else 1
set_option maxHeartbeats 400000 in
set_option maxRecDepth 100000 in
theorem t_Plan_detector (l : Launch) (htr : l.stackTraces = false) (dC : Nat → ClassId) (dI : Nat → Nat → Nat) (cI cZ : ClassId) (ad : Nat → Nat) (x : ST) (hI : CIn x) (a1 a2 a3 : Int32) (hk : ¬ k_Plan_detector x a1 a2 a3 = 0) : MX l y_Plan_detector (Cond.code y_Plan_detector b_Plan_detector 4 none :: BW) { frames := 7, cells := 1, slots := 6, locals := 104 } (PX (dC, dI) [(cI, .int), (cZ, .boolean)] (wC cI cZ ad x) [.ref (ad 0), .int a1, .int a2, .int a3]) (TQ (xnm (k_Plan_detector x a1 a2 a3))) 1 6 (fun _ => False) := by
  refine MX.ofW (cc := b_Plan_detector) (maxL := 4) (ret := none) (by decide) rfl ?_
  intro p e s m args below meth c s₁ B hml hex hv
  obtain ⟨hE, rfl, hP, hK, hN⟩ := hv
  have hx := B.exec
  have hb := B.bytes
  have hr := B.returns
  have hts := atoms_spec (ws := Cond.code y_Plan_detector b_Plan_detector 4 none :: BW) B.pre
  have hbw : ∀ w ∈ BW, w.before ([.ref (ad 0), .int a1, .int a2, .int a3]).toArray s = true := fun w h => hts w (List.mem_cons_of_mem _ h)
  have hown : s.vm.findClass "PlanRows" = some m.cls := findClass_of_methodNamed B.named
  have hlocks := B.notSynchronized
  have hl := lv_entry ([.ref (ad 0), .int a1, .int a2, .int a3]) (n := 4) (Nat.le_of_ble_eq_true rfl)
  rw [lg_entry_eq]
  generalize (lg_sl ([.ref (ad 0), .int a1, .int a2, .int a3]) ++ List.replicate (4 - (lg_sl ([.ref (ad 0), .int a1, .int a2, .int a3])).length) Slot.unset).toArray = ls at hl ⊢
  have hl : lv_has ls 4 [(0, .ref (ad 0)), (1, .int a1), (2, .int a2), (3, .int a3)] := hl
  refine lv_aload_n hx hb d_Plan_detector_0 rfl (lv_at hl 0 rfl) ?_
  refine lv_iload_n hx hb d_Plan_detector_1 rfl (lv_at hl 3 rfl) ?_
  by_cases c_1 : k_Plan_wantRoom x a3 = 0
  · refine xv (As := [.int a3]) (rest := []) (C := "PlanRows") ⟨hx, hb, hml, hown, hts⟩ (c_Plan_wantRoom l dC dI cI cZ ad x hI a3 c_1) (cw_Plan_90 hts rfl rfl ⟨Nat.le_of_ble_eq_true rfl, Nat.le_of_ble_eq_true rfl⟩) hK hN hP 0 rfl rfl rfl rfl hl.1 rfl (Nat.le_of_ble_eq_true rfl) d_Plan_detector_2 ⟨Nat.zero_le _, Nat.zero_le _⟩ ?_
    refine lv_iload_n hx hb d_Plan_detector_5 rfl (lv_at hl 1 rfl) ?_
    refine lv_iconst (v := 1) hx hb d_Plan_detector_6 (by decide) ?_
    refine lv_bipush (v := 9) hx hb d_Plan_detector_7 (by decide) ?_
    by_cases c_2 : k_Plan_wantWithin a1 1 9 = 0
    · refine xs (As := [.int a1, .int 1, .int 9]) (rest := []) ⟨hx, hb, hml, hown, hts⟩ (c_Plan_wantWithin l dC dI _ _ a1 1 9 c_2) (cw_Plan_78 hts rfl rfl ⟨Nat.le_of_ble_eq_true rfl, Nat.le_of_ble_eq_true rfl⟩) hK hN hP rfl hl.1 rfl (Nat.le_of_ble_eq_true rfl) d_Plan_detector_9 ⟨Nat.zero_le _, Nat.zero_le _⟩ ?_
      refine lv_iload_n hx hb d_Plan_detector_12 rfl (lv_at hl 2 rfl) ?_
      refine lv_iconst (v := 1) hx hb d_Plan_detector_13 (by decide) ?_
      refine lv_bipush (v := 99) hx hb d_Plan_detector_14 (by decide) ?_
      by_cases c_3 : k_Plan_wantWithin a2 1 99 = 0
      · refine xs (As := [.int a2, .int 1, .int 99]) (rest := []) ⟨hx, hb, hml, hown, hts⟩ (c_Plan_wantWithin l dC dI _ _ a2 1 99 c_3) (cw_Plan_78 hts rfl rfl ⟨Nat.le_of_ble_eq_true rfl, Nat.le_of_ble_eq_true rfl⟩) hK hN hP rfl hl.1 rfl (Nat.le_of_ble_eq_true rfl) d_Plan_detector_16 ⟨Nat.zero_le _, Nat.zero_le _⟩ ?_
        refine lv_aload_n hx hb d_Plan_detector_19 rfl (lv_at hl 0 rfl) ?_
        refine va_get (D := (dC, dI)) (ci := 8) (v := .ref (ad 6)) (C := R_Plan) (T := F_Plan) (N := 10) hx hb hbw in_Plan hown hK hP 0 rfl rfl 5 (by decide) (hbw _ w_197) (fun _ h9 => h9) rfl d_Plan_detector_20 ?_
        refine lv_iload_n hx hb d_Plan_detector_23 rfl (lv_at hl 1 rfl) ?_
        refine lv_iload_n hx hb d_Plan_detector_24 rfl (lv_at hl 2 rfl) ?_
        refine xv (As := [.int a1, .int a2]) (rest := []) (C := "PlanRows$Detectors") ⟨hx, hb, hml, hown, hts⟩ (c_Det_roomOf l dC dI cI cZ ad x hI a1 a2) (cw_Plan_172 hts rfl rfl ⟨Nat.le_of_ble_eq_true rfl, Nat.le_of_ble_eq_true rfl⟩) hK hN hP 6 rfl rfl rfl rfl hl.1 rfl (Nat.le_of_ble_eq_true rfl) d_Plan_detector_25 ⟨Nat.zero_le _, Nat.zero_le _⟩ ?_
        refine lv_iconst (v := (-1)) hx hb d_Plan_detector_28 (by decide) ?_
        refine lv_icmp_eq (tgt := 42) hx hb d_Plan_detector_29 (by decide) (fun c_4 => ?_) (fun c_4 => ?_)
        · refine lv_aload_n hx hb d_Plan_detector_42 rfl (lv_at hl 0 rfl) ?_
          refine va_get (D := (dC, dI)) (ci := 8) (v := .ref (ad 6)) (C := R_Plan) (T := F_Plan) (N := 10) hx hb hbw in_Plan hown hK hP 0 rfl rfl 5 (by decide) (hbw _ w_197) (fun _ h9 => h9) rfl d_Plan_detector_43 ?_
          refine lv_iload_n hx hb d_Plan_detector_46 rfl (lv_at hl 1 rfl) ?_
          refine lv_iload_n hx hb d_Plan_detector_47 rfl (lv_at hl 2 rfl) ?_
          refine lv_iload_n hx hb d_Plan_detector_48 rfl (lv_at hl 3 rfl) ?_
          by_cases c_5 : q_tc x < 100
          · exact absurd (show k_Plan_detector x a1 a2 a3 = 0 from by unfold k_Plan_detector; rw [if_pos c_1, if_pos c_2, if_pos c_3, if_pos c_4, if_pos c_5]) hk
          · refine xv (As := [.int a1, .int a2, .int a3]) (rest := []) (C := "PlanRows$Detectors") ⟨hx, hb, hml, hown, hts⟩ (p_Det_add l dC dI cI cZ ad x hI a1 a2 a3 c_5) (cw_Plan_177 hts rfl rfl ⟨Nat.le_of_ble_eq_true rfl, Nat.le_of_ble_eq_true rfl⟩) hK hN hP 6 rfl rfl rfl rfl hl.1 rfl (Nat.le_of_ble_eq_true rfl) d_Plan_detector_49 ⟨Nat.zero_le _, Nat.zero_le _⟩ ?_
            by_cases c_6 : k_Plan_wantAdded (-1) = 0
            · refine xs (As := [.int (-1)]) (rest := []) ⟨hx, hb, hml, hown, hts⟩ (c_Plan_wantAdded l dC dI _ _ (-1) c_6) (cw_Plan_86 hts rfl rfl ⟨Nat.le_of_ble_eq_true rfl, Nat.le_of_ble_eq_true rfl⟩) hK hN hP rfl hl.1 rfl (Nat.le_of_ble_eq_true rfl) d_Plan_detector_52 ⟨Nat.zero_le _, Nat.zero_le _⟩ ?_
              refine lv_pop hx hb d_Plan_detector_55 rfl ?_
              exact absurd (show k_Plan_detector x a1 a2 a3 = 0 from by unfold k_Plan_detector; rw [if_pos c_1, if_pos c_2, if_pos c_3, if_pos c_4, if_neg c_5, if_pos c_6]) hk
            · rw [show k_Plan_detector x a1 a2 a3 = 4 from by unfold k_Plan_detector; rw [if_pos c_1, if_pos c_2, if_pos c_3, if_pos c_4, if_neg c_5, if_neg c_6]]
              exact x_thrown (x_runS (As := [.int (-1)]) (rest := []) ⟨hx, hb, hml, hown, hts⟩ (t_Plan_wantAdded l htr dC dI _ _ (-1) c_6) (cw_Plan_86 hts rfl rfl ⟨Nat.le_of_ble_eq_true rfl, Nat.le_of_ble_eq_true rfl⟩) ⟨PX.blind, PX.at hE hK hN hP⟩ rfl rfl hl.1 rfl (lv_room (Nat.le_of_ble_eq_true rfl)) d_Plan_detector_52 ⟨Nat.le_of_ble_eq_true rfl, Nat.le_of_ble_eq_true rfl⟩) hex hlocks
        · rw [show k_Plan_detector x a1 a2 a3 = 3 from by unfold k_Plan_detector; rw [if_pos c_1, if_pos c_2, if_pos c_3, if_neg c_4]]
          obtain ⟨qs, hZ⟩ := hE.2.2.2 (175, "the detector is told already") (by decide)
          exact x_throw (own := "PlanRows") (Xn := xnm 3) (tx := "the detector is told already") (names := xup) (qs := qs) hx hb htr hown (by decide +kernel) (by decide +kernel) (hE.hat hbw ow_3) (hbw _ w_372) (hbw _ w_18) hZ hex hml hl.1 hlocks d_Plan_detector_32 d_Plan_detector_35 d_Plan_detector_36 d_Plan_detector_38 d_Plan_detector_41 (Nat.le_of_ble_eq_true rfl) (Nat.le_of_ble_eq_true rfl) (Nat.le_of_ble_eq_true rfl) (Nat.le_of_ble_eq_true rfl)
      · rw [show k_Plan_detector x a1 a2 a3 = 2 from by unfold k_Plan_detector; rw [if_pos c_1, if_pos c_2, if_neg c_3]]
        exact x_thrown (x_runS (As := [.int a2, .int 1, .int 99]) (rest := []) ⟨hx, hb, hml, hown, hts⟩ (t_Plan_wantWithin l htr dC dI _ _ a2 1 99 c_3) (cw_Plan_78 hts rfl rfl ⟨Nat.le_of_ble_eq_true rfl, Nat.le_of_ble_eq_true rfl⟩) ⟨PX.blind, PX.at hE hK hN hP⟩ rfl rfl hl.1 rfl (lv_room (Nat.le_of_ble_eq_true rfl)) d_Plan_detector_16 ⟨Nat.le_of_ble_eq_true rfl, Nat.le_of_ble_eq_true rfl⟩) hex hlocks
    · rw [show k_Plan_detector x a1 a2 a3 = 2 from by unfold k_Plan_detector; rw [if_pos c_1, if_neg c_2]]
      exact x_thrown (x_runS (As := [.int a1, .int 1, .int 9]) (rest := []) ⟨hx, hb, hml, hown, hts⟩ (t_Plan_wantWithin l htr dC dI _ _ a1 1 9 c_2) (cw_Plan_78 hts rfl rfl ⟨Nat.le_of_ble_eq_true rfl, Nat.le_of_ble_eq_true rfl⟩) ⟨PX.blind, PX.at hE hK hN hP⟩ rfl rfl hl.1 rfl (lv_room (Nat.le_of_ble_eq_true rfl)) d_Plan_detector_9 ⟨Nat.le_of_ble_eq_true rfl, Nat.le_of_ble_eq_true rfl⟩) hex hlocks
  · rw [show k_Plan_detector x a1 a2 a3 = 1 from by unfold k_Plan_detector; rw [if_neg c_1]]
    exact x_thrown (x_runV (C := "PlanRows") (b := (ad 0)) (As := [.int a3]) (rest := []) ⟨hx, hb, hml, hown, hts⟩ (t_Plan_wantRoom l htr dC dI cI cZ ad x hI a3 c_1) (cw_Plan_90 hts rfl rfl ⟨Nat.le_of_ble_eq_true rfl, Nat.le_of_ble_eq_true rfl⟩) ⟨PX.blind, va_recv hK hP (ci := 8) (q0 := 0) rfl rfl, PX.at hE hK hN hP⟩ rfl rfl hl.1 rfl (lv_room (Nat.le_of_ble_eq_true rfl)) d_Plan_detector_2 ⟨Nat.le_of_ble_eq_true rfl, Nat.le_of_ble_eq_true rfl⟩) hex hlocks
def g_Plan_detector (x : ST) (a1 a2 a3 : Int32) : Int32 × ST := if k_Plan_wantRoom x a3 = 0 then (if k_Plan_wantWithin a1 1 9 = 0 then (if k_Plan_wantWithin a2 1 99 = 0 then (if (f_Det_roomOf x a1 a2) = (-1) then (if q_tc x < 100 then (0, (g_Det_add x a1 a2 a3).2) else (0, x)) else (0, x)) else (0, x)) else (0, x)) else (0, x)
set_option maxHeartbeats 400000 in
set_option maxRecDepth 100000 in
theorem u_Plan_detector (l : Launch) (dC : Nat → ClassId) (dI : Nat → Nat → Nat) (cI cZ : ClassId) (ad : Nat → Nat) (hj : aInj 29 ad) (x : ST) (hI : CIn x) (sz : Nat) (a1 a2 a3 : Int32) (hk : k_Plan_detector x a1 a2 a3 = 0) : MX l y_Plan_detector (Cond.code y_Plan_detector b_Plan_detector 4 none :: BW) { frames := 2, cells := 0, slots := 0, locals := 42 } (PCZ sz (dC, dI) [(cI, .int), (cZ, .boolean)] (wC cI cZ ad x) [.ref (ad 0), .int a1, .int a2, .int a3]) (UQ none (WB (dC, dI) [(cI, .int), (cZ, .boolean)] (wC cI cZ ad (g_Plan_detector x a1 a2 a3).2)) (aC 29 ad sz)) 0 0 (aC 29 ad sz) := by
  refine MX.ofW (cc := b_Plan_detector) (maxL := 4) (ret := none) (by decide) rfl ?_
  intro p e s m args below meth c s₁ B hml hex hv
  obtain ⟨hsz, rfl, hP, hK, hN⟩ := hv
  subst hsz
  have hx := B.exec
  have hb := B.bytes
  have hr := B.returns
  have hts := atoms_spec (ws := Cond.code y_Plan_detector b_Plan_detector 4 none :: BW) B.pre
  have hbw : ∀ w ∈ BW, w.before ([.ref (ad 0), .int a1, .int a2, .int a3]).toArray s = true := fun w h => hts w (List.mem_cons_of_mem _ h)
  have hown : s.vm.findClass "PlanRows" = some m.cls := findClass_of_methodNamed B.named
  have hlocks := B.notSynchronized
  have hDx : ∀ z, va_D (aC 29 ad s.heap.size) (wC cI cZ ad z) := fun z => w_D hj (wC_ad cI cZ ad z) _
  have hA : ∀ H : Heap, s.heap.size ≤ H.size → ∀ q, aC 29 ad H.size q → aC 29 ad s.heap.size q := fun H h => aC_le h
  generalize aC 29 ad s.heap.size = A at hDx hA ⊢
  have hD := hDx x
  have hS : va_S A s.heap s.heap [] := va_S.rf
  have hI0 := hI
  have hl := lv_entry ([.ref (ad 0), .int a1, .int a2, .int a3]) (n := 4) (Nat.le_of_ble_eq_true rfl)
  rw [lg_entry_eq]
  generalize (lg_sl ([.ref (ad 0), .int a1, .int a2, .int a3]) ++ List.replicate (4 - (lg_sl ([.ref (ad 0), .int a1, .int a2, .int a3])).length) Slot.unset).toArray = ls at hl ⊢
  obtain ⟨H, hH⟩ : ∃ H, H = s.heap := ⟨_, rfl⟩
  obtain ⟨locs, hlocs⟩ : ∃ locs : List Loc, locs = [] := ⟨_, rfl⟩
  have hP : va_P (dC, dI) clsA (wC cI cZ ad x) H := by rw [hH]; exact hP
  have hS : va_S A s.heap H locs := by rw [hH, hlocs]; exact hS
  rw [← hlocs]
  have hW0 : ∀ (R : Room) (Q : State → Prop) (g : JFrame), W p l e R s m ([.ref (ad 0), .int a1, .int a2, .int a3]).toArray below meth c H locs 0 0 Q g → W p l e R s m ([.ref (ad 0), .int a1, .int a2, .int a3]).toArray below meth c s.heap locs 0 0 Q g := fun R Q g h => by rw [← hH]; exact h
  refine hW0 _ _ _ ?_
  have hl : lv_has ls 4 [(0, .ref (ad 0)), (1, .int a1), (2, .int a2), (3, .int a3)] := hl
  refine lv_aload_n hx hb d_Plan_detector_0 rfl (lv_at hl 0 rfl) ?_
  refine lv_iload_n hx hb d_Plan_detector_1 rfl (lv_at hl 3 rfl) ?_
  by_cases c_1 : k_Plan_wantRoom x a3 = 0
  · refine xv (As := [.int a3]) (rest := []) (C := "PlanRows") ⟨hx, hb, hml, hown, hts⟩ (c_Plan_wantRoom l dC dI cI cZ ad x hI a3 c_1) (cw_Plan_90 hts rfl rfl ⟨Nat.le_of_ble_eq_true rfl, Nat.le_of_ble_eq_true rfl⟩) hK hN hP 0 rfl rfl rfl rfl hl.1 rfl (Nat.le_of_ble_eq_true rfl) d_Plan_detector_2 ⟨Nat.zero_le _, Nat.zero_le _⟩ ?_
    refine lv_iload_n hx hb d_Plan_detector_5 rfl (lv_at hl 1 rfl) ?_
    refine lv_iconst (v := 1) hx hb d_Plan_detector_6 (by decide) ?_
    refine lv_bipush (v := 9) hx hb d_Plan_detector_7 (by decide) ?_
    by_cases c_2 : k_Plan_wantWithin a1 1 9 = 0
    · refine xs (As := [.int a1, .int 1, .int 9]) (rest := []) ⟨hx, hb, hml, hown, hts⟩ (c_Plan_wantWithin l dC dI _ _ a1 1 9 c_2) (cw_Plan_78 hts rfl rfl ⟨Nat.le_of_ble_eq_true rfl, Nat.le_of_ble_eq_true rfl⟩) hK hN hP rfl hl.1 rfl (Nat.le_of_ble_eq_true rfl) d_Plan_detector_9 ⟨Nat.zero_le _, Nat.zero_le _⟩ ?_
      refine lv_iload_n hx hb d_Plan_detector_12 rfl (lv_at hl 2 rfl) ?_
      refine lv_iconst (v := 1) hx hb d_Plan_detector_13 (by decide) ?_
      refine lv_bipush (v := 99) hx hb d_Plan_detector_14 (by decide) ?_
      by_cases c_3 : k_Plan_wantWithin a2 1 99 = 0
      · refine xs (As := [.int a2, .int 1, .int 99]) (rest := []) ⟨hx, hb, hml, hown, hts⟩ (c_Plan_wantWithin l dC dI _ _ a2 1 99 c_3) (cw_Plan_78 hts rfl rfl ⟨Nat.le_of_ble_eq_true rfl, Nat.le_of_ble_eq_true rfl⟩) hK hN hP rfl hl.1 rfl (Nat.le_of_ble_eq_true rfl) d_Plan_detector_16 ⟨Nat.zero_le _, Nat.zero_le _⟩ ?_
        refine lv_aload_n hx hb d_Plan_detector_19 rfl (lv_at hl 0 rfl) ?_
        refine va_get (D := (dC, dI)) (ci := 8) (v := .ref (ad 6)) (C := R_Plan) (T := F_Plan) (N := 10) hx hb hbw in_Plan hown hK hP 0 rfl rfl 5 (by decide) (hbw _ w_197) (fun _ h9 => h9) rfl d_Plan_detector_20 ?_
        refine lv_iload_n hx hb d_Plan_detector_23 rfl (lv_at hl 1 rfl) ?_
        refine lv_iload_n hx hb d_Plan_detector_24 rfl (lv_at hl 2 rfl) ?_
        refine xv (As := [.int a1, .int a2]) (rest := []) (C := "PlanRows$Detectors") ⟨hx, hb, hml, hown, hts⟩ (c_Det_roomOf l dC dI cI cZ ad x hI a1 a2) (cw_Plan_172 hts rfl rfl ⟨Nat.le_of_ble_eq_true rfl, Nat.le_of_ble_eq_true rfl⟩) hK hN hP 6 rfl rfl rfl rfl hl.1 rfl (Nat.le_of_ble_eq_true rfl) d_Plan_detector_25 ⟨Nat.zero_le _, Nat.zero_le _⟩ ?_
        refine lv_iconst (v := (-1)) hx hb d_Plan_detector_28 (by decide) ?_
        refine lv_icmp_eq (tgt := 42) hx hb d_Plan_detector_29 (by decide) (fun c_4 => ?_) (fun c_4 => ?_)
        · refine lv_aload_n hx hb d_Plan_detector_42 rfl (lv_at hl 0 rfl) ?_
          refine va_get (D := (dC, dI)) (ci := 8) (v := .ref (ad 6)) (C := R_Plan) (T := F_Plan) (N := 10) hx hb hbw in_Plan hown hK hP 0 rfl rfl 5 (by decide) (hbw _ w_197) (fun _ h9 => h9) rfl d_Plan_detector_43 ?_
          refine lv_iload_n hx hb d_Plan_detector_46 rfl (lv_at hl 1 rfl) ?_
          refine lv_iload_n hx hb d_Plan_detector_47 rfl (lv_at hl 2 rfl) ?_
          refine lv_iload_n hx hb d_Plan_detector_48 rfl (lv_at hl 3 rfl) ?_
          by_cases c_5 : q_tc x < 100
          · refine x_upd (x_runV (C := "PlanRows$Detectors") (b := (ad 6)) (As := [.int a1, .int a2, .int a3]) (rest := []) ⟨hx, hb, hml, hown, hts⟩ (u_Det_add l dC dI cI cZ ad hj x hI H.size a1 a2 a3) (cw_Plan_177 hts rfl rfl ⟨Nat.le_of_ble_eq_true rfl, Nat.le_of_ble_eq_true rfl⟩) ⟨PCZ.blind, va_recv hK hP (ci := 1) (q0 := 6) rfl rfl, PCZ.at hK hN hP⟩ rfl rfl hl.1 rfl (lv_room (Nat.le_of_ble_eq_true rfl)) d_Plan_detector_49 ⟨Nat.zero_le _, Nat.zero_le _⟩) hS (fun q _ h => hA H hS.1 q h) (fun q h => hA H hS.1 q h) (fun t H1 locs ht hW hB hz1 hk1 hS => ?_)
            obtain ⟨hP, -, -⟩ := hB
            rw [ht] at hP
            generalize H1 = H at hP hS ⊢
            have hD : va_D A (wC cI cZ ad ((g_Det_add x a1 a2 a3).2)) := hDx _
            refine xs (As := [.int ((g_Det_add x a1 a2 a3).1)]) (rest := []) ⟨hx, hb, hml, hown, hts⟩ (c_Plan_wantAdded l dC dI _ _ ((g_Det_add x a1 a2 a3).1) (ka_Det hI0 c_5 a1 a2 a3)) (cw_Plan_86 hts rfl rfl ⟨Nat.le_of_ble_eq_true rfl, Nat.le_of_ble_eq_true rfl⟩) hK hN hP rfl hl.1 rfl (Nat.le_of_ble_eq_true rfl) d_Plan_detector_52 ⟨Nat.zero_le _, Nat.zero_le _⟩ ?_
            refine lv_pop hx hb d_Plan_detector_55 rfl ?_
            have hg : g_Plan_detector x a1 a2 a3 = (0, (g_Det_add x a1 a2 a3).2) := by unfold g_Plan_detector; rw [if_pos c_1, if_pos c_2, if_pos c_3, if_pos c_4, if_pos c_5]
            exact W.toX (W.vret hx hb hr (fun t ht hW => ⟨rfl, ⟨by rw [ht, hg]; exact hP, va_K.moved hW.alike hK, hN.warm hW⟩, hS.F ht⟩) hS.2.2 d_Plan_detector_56)
          · exact absurd (show k_Plan_detector x a1 a2 a3 = 4 from by unfold k_Plan_detector; rw [if_pos c_1, if_pos c_2, if_pos c_3, if_pos c_4, if_neg c_5]; decide) (by rw [hk]; decide)
        · exact absurd (show k_Plan_detector x a1 a2 a3 = 3 from by unfold k_Plan_detector; rw [if_pos c_1, if_pos c_2, if_pos c_3, if_neg c_4]) (by rw [hk]; decide)
      · exact absurd (show k_Plan_detector x a1 a2 a3 = 2 from by unfold k_Plan_detector; rw [if_pos c_1, if_pos c_2, if_neg c_3]) (by rw [hk]; decide)
    · exact absurd (show k_Plan_detector x a1 a2 a3 = 2 from by unfold k_Plan_detector; rw [if_pos c_1, if_neg c_2]) (by rw [hk]; decide)
  · exact absurd (show k_Plan_detector x a1 a2 a3 = 1 from by unfold k_Plan_detector; rw [if_neg c_1]) (by rw [hk]; decide)
def k_Plan_people (x : ST) (a1 a2 a3 a4 : Int32) : Nat := if k_Plan_wantRoom x a1 = 0 then (if k_Plan_wantWithin a2 0 23 = 0 then (if k_Plan_wantWithin a3 0 23 = 0 then (if k_Plan_wantWithin a4 0 999 = 0 then (if q_pc x < 60 then 0 else (if k_Plan_wantAdded (-1) = 0 then 0 else 4)) else 2) else 2) else 2) else 1
set_option maxHeartbeats 400000 in
set_option maxRecDepth 100000 in
theorem t_Plan_people (l : Launch) (htr : l.stackTraces = false) (dC : Nat → ClassId) (dI : Nat → Nat → Nat) (cI cZ : ClassId) (ad : Nat → Nat) (x : ST) (hI : CIn x) (a1 a2 a3 a4 : Int32) (hk : ¬ k_Plan_people x a1 a2 a3 a4 = 0) : MX l y_Plan_people (Cond.code y_Plan_people b_Plan_people 5 (some .int) :: BW) { frames := 7, cells := 1, slots := 6, locals := 104 } (PX (dC, dI) [(cI, .int), (cZ, .boolean)] (wC cI cZ ad x) [.ref (ad 0), .int a1, .int a2, .int a3, .int a4]) (TQ (xnm (k_Plan_people x a1 a2 a3 a4))) 1 6 (fun _ => False) := by
  refine MX.ofW (cc := b_Plan_people) (maxL := 5) (ret := (some .int)) (by decide) rfl ?_
  intro p e s m args below meth c s₁ B hml hex hv
  obtain ⟨hE, rfl, hP, hK, hN⟩ := hv
  have hx := B.exec
  have hb := B.bytes
  have hr := B.returns
  have hts := atoms_spec (ws := Cond.code y_Plan_people b_Plan_people 5 (some .int) :: BW) B.pre
  have hbw : ∀ w ∈ BW, w.before ([.ref (ad 0), .int a1, .int a2, .int a3, .int a4]).toArray s = true := fun w h => hts w (List.mem_cons_of_mem _ h)
  have hown : s.vm.findClass "PlanRows" = some m.cls := findClass_of_methodNamed B.named
  have hlocks := B.notSynchronized
  have hl := lv_entry ([.ref (ad 0), .int a1, .int a2, .int a3, .int a4]) (n := 5) (Nat.le_of_ble_eq_true rfl)
  rw [lg_entry_eq]
  generalize (lg_sl ([.ref (ad 0), .int a1, .int a2, .int a3, .int a4]) ++ List.replicate (5 - (lg_sl ([.ref (ad 0), .int a1, .int a2, .int a3, .int a4])).length) Slot.unset).toArray = ls at hl ⊢
  have hl : lv_has ls 5 [(0, .ref (ad 0)), (1, .int a1), (2, .int a2), (3, .int a3), (4, .int a4)] := hl
  refine lv_aload_n hx hb d_Plan_people_0 rfl (lv_at hl 0 rfl) ?_
  refine lv_iload_n hx hb d_Plan_people_1 rfl (lv_at hl 1 rfl) ?_
  by_cases c_1 : k_Plan_wantRoom x a1 = 0
  · refine xv (As := [.int a1]) (rest := []) (C := "PlanRows") ⟨hx, hb, hml, hown, hts⟩ (c_Plan_wantRoom l dC dI cI cZ ad x hI a1 c_1) (cw_Plan_90 hts rfl rfl ⟨Nat.le_of_ble_eq_true rfl, Nat.le_of_ble_eq_true rfl⟩) hK hN hP 0 rfl rfl rfl rfl hl.1 rfl (Nat.le_of_ble_eq_true rfl) d_Plan_people_2 ⟨Nat.zero_le _, Nat.zero_le _⟩ ?_
    refine lv_iload_n hx hb d_Plan_people_5 rfl (lv_at hl 2 rfl) ?_
    refine lv_iconst (v := 0) hx hb d_Plan_people_6 (by decide) ?_
    refine lv_bipush (v := 23) hx hb d_Plan_people_7 (by decide) ?_
    by_cases c_2 : k_Plan_wantWithin a2 0 23 = 0
    · refine xs (As := [.int a2, .int 0, .int 23]) (rest := []) ⟨hx, hb, hml, hown, hts⟩ (c_Plan_wantWithin l dC dI _ _ a2 0 23 c_2) (cw_Plan_78 hts rfl rfl ⟨Nat.le_of_ble_eq_true rfl, Nat.le_of_ble_eq_true rfl⟩) hK hN hP rfl hl.1 rfl (Nat.le_of_ble_eq_true rfl) d_Plan_people_9 ⟨Nat.zero_le _, Nat.zero_le _⟩ ?_
      refine lv_iload_n hx hb d_Plan_people_12 rfl (lv_at hl 3 rfl) ?_
      refine lv_iconst (v := 0) hx hb d_Plan_people_13 (by decide) ?_
      refine lv_bipush (v := 23) hx hb d_Plan_people_14 (by decide) ?_
      by_cases c_3 : k_Plan_wantWithin a3 0 23 = 0
      · refine xs (As := [.int a3, .int 0, .int 23]) (rest := []) ⟨hx, hb, hml, hown, hts⟩ (c_Plan_wantWithin l dC dI _ _ a3 0 23 c_3) (cw_Plan_78 hts rfl rfl ⟨Nat.le_of_ble_eq_true rfl, Nat.le_of_ble_eq_true rfl⟩) hK hN hP rfl hl.1 rfl (Nat.le_of_ble_eq_true rfl) d_Plan_people_16 ⟨Nat.zero_le _, Nat.zero_le _⟩ ?_
        refine lv_iload hx hb d_Plan_people_19 (lv_at hl 4 rfl) ?_
        refine lv_iconst (v := 0) hx hb d_Plan_people_21 (by decide) ?_
        refine lv_sipush (v := 999) hx hb d_Plan_people_22 (by decide) ?_
        by_cases c_4 : k_Plan_wantWithin a4 0 999 = 0
        · refine xs (As := [.int a4, .int 0, .int 999]) (rest := []) ⟨hx, hb, hml, hown, hts⟩ (c_Plan_wantWithin l dC dI _ _ a4 0 999 c_4) (cw_Plan_78 hts rfl rfl ⟨Nat.le_of_ble_eq_true rfl, Nat.le_of_ble_eq_true rfl⟩) hK hN hP rfl hl.1 rfl (Nat.le_of_ble_eq_true rfl) d_Plan_people_25 ⟨Nat.zero_le _, Nat.zero_le _⟩ ?_
          refine lv_aload_n hx hb d_Plan_people_28 rfl (lv_at hl 0 rfl) ?_
          refine va_get (D := (dC, dI)) (ci := 8) (v := .ref (ad 7)) (C := R_Plan) (T := F_Plan) (N := 10) hx hb hbw in_Plan hown hK hP 0 rfl rfl 6 (by decide) (hbw _ w_198) (fun _ h9 => h9) rfl d_Plan_people_29 ?_
          refine lv_aload_n hx hb d_Plan_people_32 rfl (lv_at hl 0 rfl) ?_
          refine va_get (D := (dC, dI)) (ci := 8) (v := .ref (ad 1)) (C := R_Plan) (T := F_Plan) (N := 10) hx hb hbw in_Plan hown hK hP 0 rfl rfl 0 (by decide) (hbw _ w_192) (fun _ h9 => h9) rfl d_Plan_people_33 ?_
          refine lv_iload_n hx hb d_Plan_people_36 rfl (lv_at hl 1 rfl) ?_
          refine xv (As := [.int a1]) (rest := [.ref (ad 7)]) (C := "PlanRows$Rooms") ⟨hx, hb, hml, hown, hts⟩ (c_Rooms_floorOf l dC dI cI cZ ad x hI a1) (cw_Plan_93 hts rfl rfl ⟨Nat.le_of_ble_eq_true rfl, Nat.le_of_ble_eq_true rfl⟩) hK hN hP 1 rfl rfl rfl rfl hl.1 rfl (Nat.le_of_ble_eq_true rfl) d_Plan_people_37 ⟨Nat.zero_le _, Nat.zero_le _⟩ ?_
          refine lv_iload_n hx hb d_Plan_people_40 rfl (lv_at hl 2 rfl) ?_
          refine lv_iload_n hx hb d_Plan_people_41 rfl (lv_at hl 3 rfl) ?_
          refine lv_iload hx hb d_Plan_people_42 (lv_at hl 4 rfl) ?_
          by_cases c_5 : q_pc x < 60
          · exact absurd (show k_Plan_people x a1 a2 a3 a4 = 0 from by unfold k_Plan_people; rw [if_pos c_1, if_pos c_2, if_pos c_3, if_pos c_4, if_pos c_5]) hk
          · refine xv (As := [.int (f_Rooms_floorOf x a1), .int a2, .int a3, .int a4]) (rest := []) (C := "PlanRows$Crowd") ⟨hx, hb, hml, hown, hts⟩ (p_Crowd_add l dC dI cI cZ ad x hI (f_Rooms_floorOf x a1) a2 a3 a4 c_5) (cw_Plan_180 hts rfl rfl ⟨Nat.le_of_ble_eq_true rfl, Nat.le_of_ble_eq_true rfl⟩) hK hN hP 7 rfl rfl rfl rfl hl.1 rfl (Nat.le_of_ble_eq_true rfl) d_Plan_people_44 ⟨Nat.zero_le _, Nat.zero_le _⟩ ?_
            by_cases c_6 : k_Plan_wantAdded (-1) = 0
            · refine xs (As := [.int (-1)]) (rest := []) ⟨hx, hb, hml, hown, hts⟩ (c_Plan_wantAdded l dC dI _ _ (-1) c_6) (cw_Plan_86 hts rfl rfl ⟨Nat.le_of_ble_eq_true rfl, Nat.le_of_ble_eq_true rfl⟩) hK hN hP rfl hl.1 rfl (Nat.le_of_ble_eq_true rfl) d_Plan_people_47 ⟨Nat.zero_le _, Nat.zero_le _⟩ ?_
              exact absurd (show k_Plan_people x a1 a2 a3 a4 = 0 from by unfold k_Plan_people; rw [if_pos c_1, if_pos c_2, if_pos c_3, if_pos c_4, if_neg c_5, if_pos c_6]) hk
            · rw [show k_Plan_people x a1 a2 a3 a4 = 4 from by unfold k_Plan_people; rw [if_pos c_1, if_pos c_2, if_pos c_3, if_pos c_4, if_neg c_5, if_neg c_6]]
              exact x_thrown (x_runS (As := [.int (-1)]) (rest := []) ⟨hx, hb, hml, hown, hts⟩ (t_Plan_wantAdded l htr dC dI _ _ (-1) c_6) (cw_Plan_86 hts rfl rfl ⟨Nat.le_of_ble_eq_true rfl, Nat.le_of_ble_eq_true rfl⟩) ⟨PX.blind, PX.at hE hK hN hP⟩ rfl rfl hl.1 rfl (lv_room (Nat.le_of_ble_eq_true rfl)) d_Plan_people_47 ⟨Nat.le_of_ble_eq_true rfl, Nat.le_of_ble_eq_true rfl⟩) hex hlocks
        · rw [show k_Plan_people x a1 a2 a3 a4 = 2 from by unfold k_Plan_people; rw [if_pos c_1, if_pos c_2, if_pos c_3, if_neg c_4]]
          exact x_thrown (x_runS (As := [.int a4, .int 0, .int 999]) (rest := []) ⟨hx, hb, hml, hown, hts⟩ (t_Plan_wantWithin l htr dC dI _ _ a4 0 999 c_4) (cw_Plan_78 hts rfl rfl ⟨Nat.le_of_ble_eq_true rfl, Nat.le_of_ble_eq_true rfl⟩) ⟨PX.blind, PX.at hE hK hN hP⟩ rfl rfl hl.1 rfl (lv_room (Nat.le_of_ble_eq_true rfl)) d_Plan_people_25 ⟨Nat.le_of_ble_eq_true rfl, Nat.le_of_ble_eq_true rfl⟩) hex hlocks
      · rw [show k_Plan_people x a1 a2 a3 a4 = 2 from by unfold k_Plan_people; rw [if_pos c_1, if_pos c_2, if_neg c_3]]
        exact x_thrown (x_runS (As := [.int a3, .int 0, .int 23]) (rest := []) ⟨hx, hb, hml, hown, hts⟩ (t_Plan_wantWithin l htr dC dI _ _ a3 0 23 c_3) (cw_Plan_78 hts rfl rfl ⟨Nat.le_of_ble_eq_true rfl, Nat.le_of_ble_eq_true rfl⟩) ⟨PX.blind, PX.at hE hK hN hP⟩ rfl rfl hl.1 rfl (lv_room (Nat.le_of_ble_eq_true rfl)) d_Plan_people_16 ⟨Nat.le_of_ble_eq_true rfl, Nat.le_of_ble_eq_true rfl⟩) hex hlocks
    · rw [show k_Plan_people x a1 a2 a3 a4 = 2 from by unfold k_Plan_people; rw [if_pos c_1, if_neg c_2]]
      exact x_thrown (x_runS (As := [.int a2, .int 0, .int 23]) (rest := []) ⟨hx, hb, hml, hown, hts⟩ (t_Plan_wantWithin l htr dC dI _ _ a2 0 23 c_2) (cw_Plan_78 hts rfl rfl ⟨Nat.le_of_ble_eq_true rfl, Nat.le_of_ble_eq_true rfl⟩) ⟨PX.blind, PX.at hE hK hN hP⟩ rfl rfl hl.1 rfl (lv_room (Nat.le_of_ble_eq_true rfl)) d_Plan_people_9 ⟨Nat.le_of_ble_eq_true rfl, Nat.le_of_ble_eq_true rfl⟩) hex hlocks
  · rw [show k_Plan_people x a1 a2 a3 a4 = 1 from by unfold k_Plan_people; rw [if_neg c_1]]
    exact x_thrown (x_runV (C := "PlanRows") (b := (ad 0)) (As := [.int a1]) (rest := []) ⟨hx, hb, hml, hown, hts⟩ (t_Plan_wantRoom l htr dC dI cI cZ ad x hI a1 c_1) (cw_Plan_90 hts rfl rfl ⟨Nat.le_of_ble_eq_true rfl, Nat.le_of_ble_eq_true rfl⟩) ⟨PX.blind, va_recv hK hP (ci := 8) (q0 := 0) rfl rfl, PX.at hE hK hN hP⟩ rfl rfl hl.1 rfl (lv_room (Nat.le_of_ble_eq_true rfl)) d_Plan_people_2 ⟨Nat.le_of_ble_eq_true rfl, Nat.le_of_ble_eq_true rfl⟩) hex hlocks
def g_Plan_people (x : ST) (a1 a2 a3 a4 : Int32) : Int32 × ST := if k_Plan_wantRoom x a1 = 0 then (if k_Plan_wantWithin a2 0 23 = 0 then (if k_Plan_wantWithin a3 0 23 = 0 then (if k_Plan_wantWithin a4 0 999 = 0 then (if q_pc x < 60 then (f_Plan_wantAdded ((g_Crowd_add x (f_Rooms_floorOf x a1) a2 a3 a4).1), (g_Crowd_add x (f_Rooms_floorOf x a1) a2 a3 a4).2) else (0, x)) else (0, x)) else (0, x)) else (0, x)) else (0, x)
set_option maxHeartbeats 400000 in
set_option maxRecDepth 100000 in
theorem u_Plan_people (l : Launch) (dC : Nat → ClassId) (dI : Nat → Nat → Nat) (cI cZ : ClassId) (ad : Nat → Nat) (hj : aInj 29 ad) (x : ST) (hI : CIn x) (sz : Nat) (a1 a2 a3 a4 : Int32) (hk : k_Plan_people x a1 a2 a3 a4 = 0) : MX l y_Plan_people (Cond.code y_Plan_people b_Plan_people 5 (some .int) :: BW) { frames := 2, cells := 0, slots := 0, locals := 42 } (PCZ sz (dC, dI) [(cI, .int), (cZ, .boolean)] (wC cI cZ ad x) [.ref (ad 0), .int a1, .int a2, .int a3, .int a4]) (UQ (some (.int (g_Plan_people x a1 a2 a3 a4).1)) (WB (dC, dI) [(cI, .int), (cZ, .boolean)] (wC cI cZ ad (g_Plan_people x a1 a2 a3 a4).2)) (aC 29 ad sz)) 0 0 (aC 29 ad sz) := by
  refine MX.ofW (cc := b_Plan_people) (maxL := 5) (ret := (some .int)) (by decide) rfl ?_
  intro p e s m args below meth c s₁ B hml hex hv
  obtain ⟨hsz, rfl, hP, hK, hN⟩ := hv
  subst hsz
  have hx := B.exec
  have hb := B.bytes
  have hr := B.returns
  have hts := atoms_spec (ws := Cond.code y_Plan_people b_Plan_people 5 (some .int) :: BW) B.pre
  have hbw : ∀ w ∈ BW, w.before ([.ref (ad 0), .int a1, .int a2, .int a3, .int a4]).toArray s = true := fun w h => hts w (List.mem_cons_of_mem _ h)
  have hown : s.vm.findClass "PlanRows" = some m.cls := findClass_of_methodNamed B.named
  have hlocks := B.notSynchronized
  have hDx : ∀ z, va_D (aC 29 ad s.heap.size) (wC cI cZ ad z) := fun z => w_D hj (wC_ad cI cZ ad z) _
  have hA : ∀ H : Heap, s.heap.size ≤ H.size → ∀ q, aC 29 ad H.size q → aC 29 ad s.heap.size q := fun H h => aC_le h
  generalize aC 29 ad s.heap.size = A at hDx hA ⊢
  have hD := hDx x
  have hS : va_S A s.heap s.heap [] := va_S.rf
  have hI0 := hI
  have hl := lv_entry ([.ref (ad 0), .int a1, .int a2, .int a3, .int a4]) (n := 5) (Nat.le_of_ble_eq_true rfl)
  rw [lg_entry_eq]
  generalize (lg_sl ([.ref (ad 0), .int a1, .int a2, .int a3, .int a4]) ++ List.replicate (5 - (lg_sl ([.ref (ad 0), .int a1, .int a2, .int a3, .int a4])).length) Slot.unset).toArray = ls at hl ⊢
  obtain ⟨H, hH⟩ : ∃ H, H = s.heap := ⟨_, rfl⟩
  obtain ⟨locs, hlocs⟩ : ∃ locs : List Loc, locs = [] := ⟨_, rfl⟩
  have hP : va_P (dC, dI) clsA (wC cI cZ ad x) H := by rw [hH]; exact hP
  have hS : va_S A s.heap H locs := by rw [hH, hlocs]; exact hS
  rw [← hlocs]
  have hW0 : ∀ (R : Room) (Q : State → Prop) (g : JFrame), W p l e R s m ([.ref (ad 0), .int a1, .int a2, .int a3, .int a4]).toArray below meth c H locs 0 0 Q g → W p l e R s m ([.ref (ad 0), .int a1, .int a2, .int a3, .int a4]).toArray below meth c s.heap locs 0 0 Q g := fun R Q g h => by rw [← hH]; exact h
  refine hW0 _ _ _ ?_
  have hl : lv_has ls 5 [(0, .ref (ad 0)), (1, .int a1), (2, .int a2), (3, .int a3), (4, .int a4)] := hl
  refine lv_aload_n hx hb d_Plan_people_0 rfl (lv_at hl 0 rfl) ?_
  refine lv_iload_n hx hb d_Plan_people_1 rfl (lv_at hl 1 rfl) ?_
  by_cases c_1 : k_Plan_wantRoom x a1 = 0
  · refine xv (As := [.int a1]) (rest := []) (C := "PlanRows") ⟨hx, hb, hml, hown, hts⟩ (c_Plan_wantRoom l dC dI cI cZ ad x hI a1 c_1) (cw_Plan_90 hts rfl rfl ⟨Nat.le_of_ble_eq_true rfl, Nat.le_of_ble_eq_true rfl⟩) hK hN hP 0 rfl rfl rfl rfl hl.1 rfl (Nat.le_of_ble_eq_true rfl) d_Plan_people_2 ⟨Nat.zero_le _, Nat.zero_le _⟩ ?_
    refine lv_iload_n hx hb d_Plan_people_5 rfl (lv_at hl 2 rfl) ?_
    refine lv_iconst (v := 0) hx hb d_Plan_people_6 (by decide) ?_
    refine lv_bipush (v := 23) hx hb d_Plan_people_7 (by decide) ?_
    by_cases c_2 : k_Plan_wantWithin a2 0 23 = 0
    · refine xs (As := [.int a2, .int 0, .int 23]) (rest := []) ⟨hx, hb, hml, hown, hts⟩ (c_Plan_wantWithin l dC dI _ _ a2 0 23 c_2) (cw_Plan_78 hts rfl rfl ⟨Nat.le_of_ble_eq_true rfl, Nat.le_of_ble_eq_true rfl⟩) hK hN hP rfl hl.1 rfl (Nat.le_of_ble_eq_true rfl) d_Plan_people_9 ⟨Nat.zero_le _, Nat.zero_le _⟩ ?_
      refine lv_iload_n hx hb d_Plan_people_12 rfl (lv_at hl 3 rfl) ?_
      refine lv_iconst (v := 0) hx hb d_Plan_people_13 (by decide) ?_
      refine lv_bipush (v := 23) hx hb d_Plan_people_14 (by decide) ?_
      by_cases c_3 : k_Plan_wantWithin a3 0 23 = 0
      · refine xs (As := [.int a3, .int 0, .int 23]) (rest := []) ⟨hx, hb, hml, hown, hts⟩ (c_Plan_wantWithin l dC dI _ _ a3 0 23 c_3) (cw_Plan_78 hts rfl rfl ⟨Nat.le_of_ble_eq_true rfl, Nat.le_of_ble_eq_true rfl⟩) hK hN hP rfl hl.1 rfl (Nat.le_of_ble_eq_true rfl) d_Plan_people_16 ⟨Nat.zero_le _, Nat.zero_le _⟩ ?_
        refine lv_iload hx hb d_Plan_people_19 (lv_at hl 4 rfl) ?_
        refine lv_iconst (v := 0) hx hb d_Plan_people_21 (by decide) ?_
        refine lv_sipush (v := 999) hx hb d_Plan_people_22 (by decide) ?_
        by_cases c_4 : k_Plan_wantWithin a4 0 999 = 0
        · refine xs (As := [.int a4, .int 0, .int 999]) (rest := []) ⟨hx, hb, hml, hown, hts⟩ (c_Plan_wantWithin l dC dI _ _ a4 0 999 c_4) (cw_Plan_78 hts rfl rfl ⟨Nat.le_of_ble_eq_true rfl, Nat.le_of_ble_eq_true rfl⟩) hK hN hP rfl hl.1 rfl (Nat.le_of_ble_eq_true rfl) d_Plan_people_25 ⟨Nat.zero_le _, Nat.zero_le _⟩ ?_
          refine lv_aload_n hx hb d_Plan_people_28 rfl (lv_at hl 0 rfl) ?_
          refine va_get (D := (dC, dI)) (ci := 8) (v := .ref (ad 7)) (C := R_Plan) (T := F_Plan) (N := 10) hx hb hbw in_Plan hown hK hP 0 rfl rfl 6 (by decide) (hbw _ w_198) (fun _ h9 => h9) rfl d_Plan_people_29 ?_
          refine lv_aload_n hx hb d_Plan_people_32 rfl (lv_at hl 0 rfl) ?_
          refine va_get (D := (dC, dI)) (ci := 8) (v := .ref (ad 1)) (C := R_Plan) (T := F_Plan) (N := 10) hx hb hbw in_Plan hown hK hP 0 rfl rfl 0 (by decide) (hbw _ w_192) (fun _ h9 => h9) rfl d_Plan_people_33 ?_
          refine lv_iload_n hx hb d_Plan_people_36 rfl (lv_at hl 1 rfl) ?_
          refine xv (As := [.int a1]) (rest := [.ref (ad 7)]) (C := "PlanRows$Rooms") ⟨hx, hb, hml, hown, hts⟩ (c_Rooms_floorOf l dC dI cI cZ ad x hI a1) (cw_Plan_93 hts rfl rfl ⟨Nat.le_of_ble_eq_true rfl, Nat.le_of_ble_eq_true rfl⟩) hK hN hP 1 rfl rfl rfl rfl hl.1 rfl (Nat.le_of_ble_eq_true rfl) d_Plan_people_37 ⟨Nat.zero_le _, Nat.zero_le _⟩ ?_
          refine lv_iload_n hx hb d_Plan_people_40 rfl (lv_at hl 2 rfl) ?_
          refine lv_iload_n hx hb d_Plan_people_41 rfl (lv_at hl 3 rfl) ?_
          refine lv_iload hx hb d_Plan_people_42 (lv_at hl 4 rfl) ?_
          by_cases c_5 : q_pc x < 60
          · refine x_upd (x_runV (C := "PlanRows$Crowd") (b := (ad 7)) (As := [.int (f_Rooms_floorOf x a1), .int a2, .int a3, .int a4]) (rest := []) ⟨hx, hb, hml, hown, hts⟩ (u_Crowd_add l dC dI cI cZ ad hj x hI H.size (f_Rooms_floorOf x a1) a2 a3 a4) (cw_Plan_180 hts rfl rfl ⟨Nat.le_of_ble_eq_true rfl, Nat.le_of_ble_eq_true rfl⟩) ⟨PCZ.blind, va_recv hK hP (ci := 0) (q0 := 7) rfl rfl, PCZ.at hK hN hP⟩ rfl rfl hl.1 rfl (lv_room (Nat.le_of_ble_eq_true rfl)) d_Plan_people_44 ⟨Nat.zero_le _, Nat.zero_le _⟩) hS (fun q _ h => hA H hS.1 q h) (fun q h => hA H hS.1 q h) (fun t H1 locs ht hW hB hz1 hk1 hS => ?_)
            obtain ⟨hP, -, -⟩ := hB
            rw [ht] at hP
            generalize H1 = H at hP hS ⊢
            have hD : va_D A (wC cI cZ ad ((g_Crowd_add x (f_Rooms_floorOf x a1) a2 a3 a4).2)) := hDx _
            refine xs (As := [.int ((g_Crowd_add x (f_Rooms_floorOf x a1) a2 a3 a4).1)]) (rest := []) ⟨hx, hb, hml, hown, hts⟩ (c_Plan_wantAdded l dC dI _ _ ((g_Crowd_add x (f_Rooms_floorOf x a1) a2 a3 a4).1) (ka_Crowd hI0 c_5 (f_Rooms_floorOf x a1) a2 a3 a4)) (cw_Plan_86 hts rfl rfl ⟨Nat.le_of_ble_eq_true rfl, Nat.le_of_ble_eq_true rfl⟩) hK hN hP rfl hl.1 rfl (Nat.le_of_ble_eq_true rfl) d_Plan_people_47 ⟨Nat.zero_le _, Nat.zero_le _⟩ ?_
            have hg : g_Plan_people x a1 a2 a3 a4 = (f_Plan_wantAdded ((g_Crowd_add x (f_Rooms_floorOf x a1) a2 a3 a4).1), (g_Crowd_add x (f_Rooms_floorOf x a1) a2 a3 a4).2) := by unfold g_Plan_people; rw [if_pos c_1, if_pos c_2, if_pos c_3, if_pos c_4, if_pos c_5]
            exact W.toX (W.iret (v := f_Plan_wantAdded ((g_Crowd_add x (f_Rooms_floorOf x a1) a2 a3 a4).1)) hx hb hr (fun t ht hW => ⟨by rw [hg], ⟨by rw [ht, hg]; exact hP, va_K.moved hW.alike hK, hN.warm hW⟩, hS.F ht⟩) hS.2.2 d_Plan_people_50)
          · exact absurd (show k_Plan_people x a1 a2 a3 a4 = 4 from by unfold k_Plan_people; rw [if_pos c_1, if_pos c_2, if_pos c_3, if_pos c_4, if_neg c_5]; decide) (by rw [hk]; decide)
        · exact absurd (show k_Plan_people x a1 a2 a3 a4 = 2 from by unfold k_Plan_people; rw [if_pos c_1, if_pos c_2, if_pos c_3, if_neg c_4]) (by rw [hk]; decide)
      · exact absurd (show k_Plan_people x a1 a2 a3 a4 = 2 from by unfold k_Plan_people; rw [if_pos c_1, if_pos c_2, if_neg c_3]) (by rw [hk]; decide)
    · exact absurd (show k_Plan_people x a1 a2 a3 a4 = 2 from by unfold k_Plan_people; rw [if_pos c_1, if_neg c_2]) (by rw [hk]; decide)
  · exact absurd (show k_Plan_people x a1 a2 a3 a4 = 1 from by unfold k_Plan_people; rw [if_neg c_1]) (by rw [hk]; decide)
def k_Plan_window (x : ST) (a1 a2 a3 a4 : Int32) : Nat := if k_Plan_wantRoom x a1 = 0 then (if k_Plan_wantPoint a2 a3 a4 = 0 then (if q_wc x < 30 then 0 else (if k_Plan_wantAdded (-1) = 0 then 0 else 4)) else 2) else 1
set_option maxHeartbeats 400000 in
set_option maxRecDepth 100000 in
theorem t_Plan_window (l : Launch) (htr : l.stackTraces = false) (dC : Nat → ClassId) (dI : Nat → Nat → Nat) (cI cZ : ClassId) (ad : Nat → Nat) (x : ST) (hI : CIn x) (a1 a2 a3 a4 : Int32) (hk : ¬ k_Plan_window x a1 a2 a3 a4 = 0) : MX l y_Plan_window (Cond.code y_Plan_window b_Plan_window 5 (some .int) :: BW) { frames := 8, cells := 1, slots := 6, locals := 126 } (PX (dC, dI) [(cI, .int), (cZ, .boolean)] (wC cI cZ ad x) [.ref (ad 0), .int a1, .int a2, .int a3, .int a4]) (TQ (xnm (k_Plan_window x a1 a2 a3 a4))) 1 6 (fun _ => False) := by
  refine MX.ofW (cc := b_Plan_window) (maxL := 5) (ret := (some .int)) (by decide) rfl ?_
  intro p e s m args below meth c s₁ B hml hex hv
  obtain ⟨hE, rfl, hP, hK, hN⟩ := hv
  have hx := B.exec
  have hb := B.bytes
  have hr := B.returns
  have hts := atoms_spec (ws := Cond.code y_Plan_window b_Plan_window 5 (some .int) :: BW) B.pre
  have hbw : ∀ w ∈ BW, w.before ([.ref (ad 0), .int a1, .int a2, .int a3, .int a4]).toArray s = true := fun w h => hts w (List.mem_cons_of_mem _ h)
  have hown : s.vm.findClass "PlanRows" = some m.cls := findClass_of_methodNamed B.named
  have hlocks := B.notSynchronized
  have hl := lv_entry ([.ref (ad 0), .int a1, .int a2, .int a3, .int a4]) (n := 5) (Nat.le_of_ble_eq_true rfl)
  rw [lg_entry_eq]
  generalize (lg_sl ([.ref (ad 0), .int a1, .int a2, .int a3, .int a4]) ++ List.replicate (5 - (lg_sl ([.ref (ad 0), .int a1, .int a2, .int a3, .int a4])).length) Slot.unset).toArray = ls at hl ⊢
  have hl : lv_has ls 5 [(0, .ref (ad 0)), (1, .int a1), (2, .int a2), (3, .int a3), (4, .int a4)] := hl
  refine lv_aload_n hx hb d_Plan_window_0 rfl (lv_at hl 0 rfl) ?_
  refine lv_iload_n hx hb d_Plan_window_1 rfl (lv_at hl 1 rfl) ?_
  by_cases c_1 : k_Plan_wantRoom x a1 = 0
  · refine xv (As := [.int a1]) (rest := []) (C := "PlanRows") ⟨hx, hb, hml, hown, hts⟩ (c_Plan_wantRoom l dC dI cI cZ ad x hI a1 c_1) (cw_Plan_90 hts rfl rfl ⟨Nat.le_of_ble_eq_true rfl, Nat.le_of_ble_eq_true rfl⟩) hK hN hP 0 rfl rfl rfl rfl hl.1 rfl (Nat.le_of_ble_eq_true rfl) d_Plan_window_2 ⟨Nat.zero_le _, Nat.zero_le _⟩ ?_
    refine lv_iload_n hx hb d_Plan_window_5 rfl (lv_at hl 2 rfl) ?_
    refine lv_iload_n hx hb d_Plan_window_6 rfl (lv_at hl 3 rfl) ?_
    refine lv_iload hx hb d_Plan_window_7 (lv_at hl 4 rfl) ?_
    by_cases c_2 : k_Plan_wantPoint a2 a3 a4 = 0
    · refine xs (As := [.int a2, .int a3, .int a4]) (rest := []) ⟨hx, hb, hml, hown, hts⟩ (c_Plan_wantPoint l dC dI _ _ a2 a3 a4 c_2) (cw_Plan_186 hts rfl rfl ⟨Nat.le_of_ble_eq_true rfl, Nat.le_of_ble_eq_true rfl⟩) hK hN hP rfl hl.1 rfl (Nat.le_of_ble_eq_true rfl) d_Plan_window_9 ⟨Nat.zero_le _, Nat.zero_le _⟩ ?_
      refine lv_aload_n hx hb d_Plan_window_12 rfl (lv_at hl 0 rfl) ?_
      refine va_get (D := (dC, dI)) (ci := 8) (v := .ref (ad 8)) (C := R_Plan) (T := F_Plan) (N := 10) hx hb hbw in_Plan hown hK hP 0 rfl rfl 7 (by decide) (hbw _ w_199) (fun _ h9 => h9) rfl d_Plan_window_13 ?_
      refine lv_iload_n hx hb d_Plan_window_16 rfl (lv_at hl 2 rfl) ?_
      refine lv_iload_n hx hb d_Plan_window_17 rfl (lv_at hl 3 rfl) ?_
      refine lv_iload hx hb d_Plan_window_18 (lv_at hl 4 rfl) ?_
      by_cases c_3 : q_wc x < 30
      · exact absurd (show k_Plan_window x a1 a2 a3 a4 = 0 from by unfold k_Plan_window; rw [if_pos c_1, if_pos c_2, if_pos c_3]) hk
      · refine xv (As := [.int a2, .int a3, .int a4]) (rest := []) (C := "PlanRows$Windows") ⟨hx, hb, hml, hown, hts⟩ (p_Win_add l dC dI cI cZ ad x hI a2 a3 a4 c_3) (cw_Plan_189 hts rfl rfl ⟨Nat.le_of_ble_eq_true rfl, Nat.le_of_ble_eq_true rfl⟩) hK hN hP 8 rfl rfl rfl rfl hl.1 rfl (Nat.le_of_ble_eq_true rfl) d_Plan_window_20 ⟨Nat.zero_le _, Nat.zero_le _⟩ ?_
        by_cases c_4 : k_Plan_wantAdded (-1) = 0
        · refine xs (As := [.int (-1)]) (rest := []) ⟨hx, hb, hml, hown, hts⟩ (c_Plan_wantAdded l dC dI _ _ (-1) c_4) (cw_Plan_86 hts rfl rfl ⟨Nat.le_of_ble_eq_true rfl, Nat.le_of_ble_eq_true rfl⟩) hK hN hP rfl hl.1 rfl (Nat.le_of_ble_eq_true rfl) d_Plan_window_23 ⟨Nat.zero_le _, Nat.zero_le _⟩ ?_
          exact absurd (show k_Plan_window x a1 a2 a3 a4 = 0 from by unfold k_Plan_window; rw [if_pos c_1, if_pos c_2, if_neg c_3, if_pos c_4]) hk
        · rw [show k_Plan_window x a1 a2 a3 a4 = 4 from by unfold k_Plan_window; rw [if_pos c_1, if_pos c_2, if_neg c_3, if_neg c_4]]
          exact x_thrown (x_runS (As := [.int (-1)]) (rest := []) ⟨hx, hb, hml, hown, hts⟩ (t_Plan_wantAdded l htr dC dI _ _ (-1) c_4) (cw_Plan_86 hts rfl rfl ⟨Nat.le_of_ble_eq_true rfl, Nat.le_of_ble_eq_true rfl⟩) ⟨PX.blind, PX.at hE hK hN hP⟩ rfl rfl hl.1 rfl (lv_room (Nat.le_of_ble_eq_true rfl)) d_Plan_window_23 ⟨Nat.le_of_ble_eq_true rfl, Nat.le_of_ble_eq_true rfl⟩) hex hlocks
    · rw [show k_Plan_window x a1 a2 a3 a4 = 2 from by unfold k_Plan_window; rw [if_pos c_1, if_neg c_2]]
      exact x_thrown (x_runS (As := [.int a2, .int a3, .int a4]) (rest := []) ⟨hx, hb, hml, hown, hts⟩ (t_Plan_wantPoint l htr dC dI _ _ a2 a3 a4 c_2) (cw_Plan_186 hts rfl rfl ⟨Nat.le_of_ble_eq_true rfl, Nat.le_of_ble_eq_true rfl⟩) ⟨PX.blind, PX.at hE hK hN hP⟩ rfl rfl hl.1 rfl (lv_room (Nat.le_of_ble_eq_true rfl)) d_Plan_window_9 ⟨Nat.le_of_ble_eq_true rfl, Nat.le_of_ble_eq_true rfl⟩) hex hlocks
  · rw [show k_Plan_window x a1 a2 a3 a4 = 1 from by unfold k_Plan_window; rw [if_neg c_1]]
    exact x_thrown (x_runV (C := "PlanRows") (b := (ad 0)) (As := [.int a1]) (rest := []) ⟨hx, hb, hml, hown, hts⟩ (t_Plan_wantRoom l htr dC dI cI cZ ad x hI a1 c_1) (cw_Plan_90 hts rfl rfl ⟨Nat.le_of_ble_eq_true rfl, Nat.le_of_ble_eq_true rfl⟩) ⟨PX.blind, va_recv hK hP (ci := 8) (q0 := 0) rfl rfl, PX.at hE hK hN hP⟩ rfl rfl hl.1 rfl (lv_room (Nat.le_of_ble_eq_true rfl)) d_Plan_window_2 ⟨Nat.le_of_ble_eq_true rfl, Nat.le_of_ble_eq_true rfl⟩) hex hlocks
def g_Plan_window (x : ST) (a1 a2 a3 a4 : Int32) : Int32 × ST := if k_Plan_wantRoom x a1 = 0 then (if k_Plan_wantPoint a2 a3 a4 = 0 then (if q_wc x < 30 then (f_Plan_wantAdded ((g_Win_add x a2 a3 a4).1), (g_Win_add x a2 a3 a4).2) else (0, x)) else (0, x)) else (0, x)
set_option maxHeartbeats 400000 in
set_option maxRecDepth 100000 in
theorem u_Plan_window (l : Launch) (dC : Nat → ClassId) (dI : Nat → Nat → Nat) (cI cZ : ClassId) (ad : Nat → Nat) (hj : aInj 29 ad) (x : ST) (hI : CIn x) (sz : Nat) (a1 a2 a3 a4 : Int32) (hk : k_Plan_window x a1 a2 a3 a4 = 0) : MX l y_Plan_window (Cond.code y_Plan_window b_Plan_window 5 (some .int) :: BW) { frames := 2, cells := 0, slots := 0, locals := 44 } (PCZ sz (dC, dI) [(cI, .int), (cZ, .boolean)] (wC cI cZ ad x) [.ref (ad 0), .int a1, .int a2, .int a3, .int a4]) (UQ (some (.int (g_Plan_window x a1 a2 a3 a4).1)) (WB (dC, dI) [(cI, .int), (cZ, .boolean)] (wC cI cZ ad (g_Plan_window x a1 a2 a3 a4).2)) (aC 29 ad sz)) 0 0 (aC 29 ad sz) := by
  refine MX.ofW (cc := b_Plan_window) (maxL := 5) (ret := (some .int)) (by decide) rfl ?_
  intro p e s m args below meth c s₁ B hml hex hv
  obtain ⟨hsz, rfl, hP, hK, hN⟩ := hv
  subst hsz
  have hx := B.exec
  have hb := B.bytes
  have hr := B.returns
  have hts := atoms_spec (ws := Cond.code y_Plan_window b_Plan_window 5 (some .int) :: BW) B.pre
  have hbw : ∀ w ∈ BW, w.before ([.ref (ad 0), .int a1, .int a2, .int a3, .int a4]).toArray s = true := fun w h => hts w (List.mem_cons_of_mem _ h)
  have hown : s.vm.findClass "PlanRows" = some m.cls := findClass_of_methodNamed B.named
  have hlocks := B.notSynchronized
  have hDx : ∀ z, va_D (aC 29 ad s.heap.size) (wC cI cZ ad z) := fun z => w_D hj (wC_ad cI cZ ad z) _
  have hA : ∀ H : Heap, s.heap.size ≤ H.size → ∀ q, aC 29 ad H.size q → aC 29 ad s.heap.size q := fun H h => aC_le h
  generalize aC 29 ad s.heap.size = A at hDx hA ⊢
  have hD := hDx x
  have hS : va_S A s.heap s.heap [] := va_S.rf
  have hI0 := hI
  have hl := lv_entry ([.ref (ad 0), .int a1, .int a2, .int a3, .int a4]) (n := 5) (Nat.le_of_ble_eq_true rfl)
  rw [lg_entry_eq]
  generalize (lg_sl ([.ref (ad 0), .int a1, .int a2, .int a3, .int a4]) ++ List.replicate (5 - (lg_sl ([.ref (ad 0), .int a1, .int a2, .int a3, .int a4])).length) Slot.unset).toArray = ls at hl ⊢
  obtain ⟨H, hH⟩ : ∃ H, H = s.heap := ⟨_, rfl⟩
  obtain ⟨locs, hlocs⟩ : ∃ locs : List Loc, locs = [] := ⟨_, rfl⟩
  have hP : va_P (dC, dI) clsA (wC cI cZ ad x) H := by rw [hH]; exact hP
  have hS : va_S A s.heap H locs := by rw [hH, hlocs]; exact hS
  rw [← hlocs]
  have hW0 : ∀ (R : Room) (Q : State → Prop) (g : JFrame), W p l e R s m ([.ref (ad 0), .int a1, .int a2, .int a3, .int a4]).toArray below meth c H locs 0 0 Q g → W p l e R s m ([.ref (ad 0), .int a1, .int a2, .int a3, .int a4]).toArray below meth c s.heap locs 0 0 Q g := fun R Q g h => by rw [← hH]; exact h
  refine hW0 _ _ _ ?_
  have hl : lv_has ls 5 [(0, .ref (ad 0)), (1, .int a1), (2, .int a2), (3, .int a3), (4, .int a4)] := hl
  refine lv_aload_n hx hb d_Plan_window_0 rfl (lv_at hl 0 rfl) ?_
  refine lv_iload_n hx hb d_Plan_window_1 rfl (lv_at hl 1 rfl) ?_
  by_cases c_1 : k_Plan_wantRoom x a1 = 0
  · refine xv (As := [.int a1]) (rest := []) (C := "PlanRows") ⟨hx, hb, hml, hown, hts⟩ (c_Plan_wantRoom l dC dI cI cZ ad x hI a1 c_1) (cw_Plan_90 hts rfl rfl ⟨Nat.le_of_ble_eq_true rfl, Nat.le_of_ble_eq_true rfl⟩) hK hN hP 0 rfl rfl rfl rfl hl.1 rfl (Nat.le_of_ble_eq_true rfl) d_Plan_window_2 ⟨Nat.zero_le _, Nat.zero_le _⟩ ?_
    refine lv_iload_n hx hb d_Plan_window_5 rfl (lv_at hl 2 rfl) ?_
    refine lv_iload_n hx hb d_Plan_window_6 rfl (lv_at hl 3 rfl) ?_
    refine lv_iload hx hb d_Plan_window_7 (lv_at hl 4 rfl) ?_
    by_cases c_2 : k_Plan_wantPoint a2 a3 a4 = 0
    · refine xs (As := [.int a2, .int a3, .int a4]) (rest := []) ⟨hx, hb, hml, hown, hts⟩ (c_Plan_wantPoint l dC dI _ _ a2 a3 a4 c_2) (cw_Plan_186 hts rfl rfl ⟨Nat.le_of_ble_eq_true rfl, Nat.le_of_ble_eq_true rfl⟩) hK hN hP rfl hl.1 rfl (Nat.le_of_ble_eq_true rfl) d_Plan_window_9 ⟨Nat.zero_le _, Nat.zero_le _⟩ ?_
      refine lv_aload_n hx hb d_Plan_window_12 rfl (lv_at hl 0 rfl) ?_
      refine va_get (D := (dC, dI)) (ci := 8) (v := .ref (ad 8)) (C := R_Plan) (T := F_Plan) (N := 10) hx hb hbw in_Plan hown hK hP 0 rfl rfl 7 (by decide) (hbw _ w_199) (fun _ h9 => h9) rfl d_Plan_window_13 ?_
      refine lv_iload_n hx hb d_Plan_window_16 rfl (lv_at hl 2 rfl) ?_
      refine lv_iload_n hx hb d_Plan_window_17 rfl (lv_at hl 3 rfl) ?_
      refine lv_iload hx hb d_Plan_window_18 (lv_at hl 4 rfl) ?_
      by_cases c_3 : q_wc x < 30
      · refine x_upd (x_runV (C := "PlanRows$Windows") (b := (ad 8)) (As := [.int a2, .int a3, .int a4]) (rest := []) ⟨hx, hb, hml, hown, hts⟩ (u_Win_add l dC dI cI cZ ad hj x hI H.size a2 a3 a4) (cw_Plan_189 hts rfl rfl ⟨Nat.le_of_ble_eq_true rfl, Nat.le_of_ble_eq_true rfl⟩) ⟨PCZ.blind, va_recv hK hP (ci := 7) (q0 := 8) rfl rfl, PCZ.at hK hN hP⟩ rfl rfl hl.1 rfl (lv_room (Nat.le_of_ble_eq_true rfl)) d_Plan_window_20 ⟨Nat.zero_le _, Nat.zero_le _⟩) hS (fun q _ h => hA H hS.1 q h) (fun q h => hA H hS.1 q h) (fun t H1 locs ht hW hB hz1 hk1 hS => ?_)
        obtain ⟨hP, -, -⟩ := hB
        rw [ht] at hP
        generalize H1 = H at hP hS ⊢
        have hD : va_D A (wC cI cZ ad ((g_Win_add x a2 a3 a4).2)) := hDx _
        refine xs (As := [.int ((g_Win_add x a2 a3 a4).1)]) (rest := []) ⟨hx, hb, hml, hown, hts⟩ (c_Plan_wantAdded l dC dI _ _ ((g_Win_add x a2 a3 a4).1) (ka_Win hI0 c_3 a2 a3 a4)) (cw_Plan_86 hts rfl rfl ⟨Nat.le_of_ble_eq_true rfl, Nat.le_of_ble_eq_true rfl⟩) hK hN hP rfl hl.1 rfl (Nat.le_of_ble_eq_true rfl) d_Plan_window_23 ⟨Nat.zero_le _, Nat.zero_le _⟩ ?_
        have hg : g_Plan_window x a1 a2 a3 a4 = (f_Plan_wantAdded ((g_Win_add x a2 a3 a4).1), (g_Win_add x a2 a3 a4).2) := by unfold g_Plan_window; rw [if_pos c_1, if_pos c_2, if_pos c_3]
        exact W.toX (W.iret (v := f_Plan_wantAdded ((g_Win_add x a2 a3 a4).1)) hx hb hr (fun t ht hW => ⟨by rw [hg], ⟨by rw [ht, hg]; exact hP, va_K.moved hW.alike hK, hN.warm hW⟩, hS.F ht⟩) hS.2.2 d_Plan_window_26)
      · exact absurd (show k_Plan_window x a1 a2 a3 a4 = 4 from by unfold k_Plan_window; rw [if_pos c_1, if_pos c_2, if_neg c_3]; decide) (by rw [hk]; decide)
    · exact absurd (show k_Plan_window x a1 a2 a3 a4 = 2 from by unfold k_Plan_window; rw [if_pos c_1, if_neg c_2]) (by rw [hk]; decide)
  · exact absurd (show k_Plan_window x a1 a2 a3 a4 = 1 from by unfold k_Plan_window; rw [if_neg c_1]) (by rw [hk]; decide)
def k_Plan_look (x : ST) (a1 a2 : Int32) : Nat := if k_Plan_wantWithin a1 (q_ld x) 99999 = 0 then (if k_Plan_wantWithin a2 1 10000 = 0 then 0 else 2) else 2
set_option maxHeartbeats 400000 in
set_option maxRecDepth 100000 in
theorem t_Plan_look (l : Launch) (htr : l.stackTraces = false) (dC : Nat → ClassId) (dI : Nat → Nat → Nat) (cI cZ : ClassId) (ad : Nat → Nat) (x : ST) (hI : CIn x) (a1 a2 : Int32) (hk : ¬ k_Plan_look x a1 a2 = 0) : MX l y_Plan_look (Cond.code y_Plan_look b_Plan_look 3 none :: BW) { frames := 7, cells := 1, slots := 6, locals := 104 } (PX (dC, dI) [(cI, .int), (cZ, .boolean)] (wC cI cZ ad x) [.ref (ad 0), .int a1, .int a2]) (TQ (xnm (k_Plan_look x a1 a2))) 1 6 (fun _ => False) := by
  refine MX.ofW (cc := b_Plan_look) (maxL := 3) (ret := none) (by decide) rfl ?_
  intro p e s m args below meth c s₁ B hml hex hv
  obtain ⟨hE, rfl, hP, hK, hN⟩ := hv
  have hx := B.exec
  have hb := B.bytes
  have hr := B.returns
  have hts := atoms_spec (ws := Cond.code y_Plan_look b_Plan_look 3 none :: BW) B.pre
  have hbw : ∀ w ∈ BW, w.before ([.ref (ad 0), .int a1, .int a2]).toArray s = true := fun w h => hts w (List.mem_cons_of_mem _ h)
  have hown : s.vm.findClass "PlanRows" = some m.cls := findClass_of_methodNamed B.named
  have hlocks := B.notSynchronized
  have hl := lv_entry ([.ref (ad 0), .int a1, .int a2]) (n := 3) (Nat.le_of_ble_eq_true rfl)
  rw [lg_entry_eq]
  generalize (lg_sl ([.ref (ad 0), .int a1, .int a2]) ++ List.replicate (3 - (lg_sl ([.ref (ad 0), .int a1, .int a2])).length) Slot.unset).toArray = ls at hl ⊢
  have hl : lv_has ls 3 [(0, .ref (ad 0)), (1, .int a1), (2, .int a2)] := hl
  refine lv_iload_n hx hb d_Plan_look_0 rfl (lv_at hl 1 rfl) ?_
  refine lv_aload_n hx hb d_Plan_look_1 rfl (lv_at hl 0 rfl) ?_
  refine va_get (D := (dC, dI)) (ci := 8) (v := .int (q_ld x)) (C := R_Plan) (T := F_Plan) (N := 10) hx hb hbw in_Plan hown hK hP 0 rfl rfl 8 (by decide) (hbw _ w_200) (fun _ h9 => h9) rfl d_Plan_look_2 ?_
  refine lv_ldc (v := 99999) hx hb hown (hbw _ w_687) d_Plan_look_5 ?_
  by_cases c_1 : k_Plan_wantWithin a1 (q_ld x) 99999 = 0
  · refine xs (As := [.int a1, .int (q_ld x), .int 99999]) (rest := []) ⟨hx, hb, hml, hown, hts⟩ (c_Plan_wantWithin l dC dI _ _ a1 (q_ld x) 99999 c_1) (cw_Plan_78 hts rfl rfl ⟨Nat.le_of_ble_eq_true rfl, Nat.le_of_ble_eq_true rfl⟩) hK hN hP rfl hl.1 rfl (Nat.le_of_ble_eq_true rfl) d_Plan_look_7 ⟨Nat.zero_le _, Nat.zero_le _⟩ ?_
    refine lv_iload_n hx hb d_Plan_look_10 rfl (lv_at hl 2 rfl) ?_
    refine lv_iconst (v := 1) hx hb d_Plan_look_11 (by decide) ?_
    refine lv_sipush (v := 10000) hx hb d_Plan_look_12 (by decide) ?_
    by_cases c_2 : k_Plan_wantWithin a2 1 10000 = 0
    · refine xs (As := [.int a2, .int 1, .int 10000]) (rest := []) ⟨hx, hb, hml, hown, hts⟩ (c_Plan_wantWithin l dC dI _ _ a2 1 10000 c_2) (cw_Plan_78 hts rfl rfl ⟨Nat.le_of_ble_eq_true rfl, Nat.le_of_ble_eq_true rfl⟩) hK hN hP rfl hl.1 rfl (Nat.le_of_ble_eq_true rfl) d_Plan_look_15 ⟨Nat.zero_le _, Nat.zero_le _⟩ ?_
      refine lv_aload_n hx hb d_Plan_look_18 rfl (lv_at hl 0 rfl) ?_
      refine lv_iload_n hx hb d_Plan_look_19 rfl (lv_at hl 1 rfl) ?_
      exact absurd (show k_Plan_look x a1 a2 = 0 from by unfold k_Plan_look; rw [if_pos c_1, if_pos c_2]) hk
    · rw [show k_Plan_look x a1 a2 = 2 from by unfold k_Plan_look; rw [if_pos c_1, if_neg c_2]]
      exact x_thrown (x_runS (As := [.int a2, .int 1, .int 10000]) (rest := []) ⟨hx, hb, hml, hown, hts⟩ (t_Plan_wantWithin l htr dC dI _ _ a2 1 10000 c_2) (cw_Plan_78 hts rfl rfl ⟨Nat.le_of_ble_eq_true rfl, Nat.le_of_ble_eq_true rfl⟩) ⟨PX.blind, PX.at hE hK hN hP⟩ rfl rfl hl.1 rfl (lv_room (Nat.le_of_ble_eq_true rfl)) d_Plan_look_15 ⟨Nat.le_of_ble_eq_true rfl, Nat.le_of_ble_eq_true rfl⟩) hex hlocks
  · rw [show k_Plan_look x a1 a2 = 2 from by unfold k_Plan_look; rw [if_neg c_1]]
    exact x_thrown (x_runS (As := [.int a1, .int (q_ld x), .int 99999]) (rest := []) ⟨hx, hb, hml, hown, hts⟩ (t_Plan_wantWithin l htr dC dI _ _ a1 (q_ld x) 99999 c_1) (cw_Plan_78 hts rfl rfl ⟨Nat.le_of_ble_eq_true rfl, Nat.le_of_ble_eq_true rfl⟩) ⟨PX.blind, PX.at hE hK hN hP⟩ rfl rfl hl.1 rfl (lv_room (Nat.le_of_ble_eq_true rfl)) d_Plan_look_7 ⟨Nat.le_of_ble_eq_true rfl, Nat.le_of_ble_eq_true rfl⟩) hex hlocks
def g_Plan_look (x : ST) (a1 a2 : Int32) : Int32 × ST := if k_Plan_wantWithin a1 (q_ld x) 99999 = 0 then (if k_Plan_wantWithin a2 1 10000 = 0 then (0, s_lt (s_ld x a1) a2) else (0, x)) else (0, x)
set_option maxHeartbeats 400000 in
set_option maxRecDepth 100000 in
theorem u_Plan_look (l : Launch) (dC : Nat → ClassId) (dI : Nat → Nat → Nat) (cI cZ : ClassId) (ad : Nat → Nat) (hj : aInj 29 ad) (x : ST) (hI : CIn x) (sz : Nat) (a1 a2 : Int32) (hk : k_Plan_look x a1 a2 = 0) : MX l y_Plan_look (Cond.code y_Plan_look b_Plan_look 3 none :: BW) { frames := 1, cells := 0, slots := 0, locals := 22 } (PCZ sz (dC, dI) [(cI, .int), (cZ, .boolean)] (wC cI cZ ad x) [.ref (ad 0), .int a1, .int a2]) (UQ none (WB (dC, dI) [(cI, .int), (cZ, .boolean)] (wC cI cZ ad (g_Plan_look x a1 a2).2)) (aC 29 ad sz)) 0 0 (aC 29 ad sz) := by
  refine MX.ofW (cc := b_Plan_look) (maxL := 3) (ret := none) (by decide) rfl ?_
  intro p e s m args below meth c s₁ B hml hex hv
  obtain ⟨hsz, rfl, hP, hK, hN⟩ := hv
  subst hsz
  have hx := B.exec
  have hb := B.bytes
  have hr := B.returns
  have hts := atoms_spec (ws := Cond.code y_Plan_look b_Plan_look 3 none :: BW) B.pre
  have hbw : ∀ w ∈ BW, w.before ([.ref (ad 0), .int a1, .int a2]).toArray s = true := fun w h => hts w (List.mem_cons_of_mem _ h)
  have hown : s.vm.findClass "PlanRows" = some m.cls := findClass_of_methodNamed B.named
  have hlocks := B.notSynchronized
  have hDx : ∀ z, va_D (aC 29 ad s.heap.size) (wC cI cZ ad z) := fun z => w_D hj (wC_ad cI cZ ad z) _
  have hA : ∀ H : Heap, s.heap.size ≤ H.size → ∀ q, aC 29 ad H.size q → aC 29 ad s.heap.size q := fun H h => aC_le h
  generalize aC 29 ad s.heap.size = A at hDx hA ⊢
  have hD := hDx x
  have hS : va_S A s.heap s.heap [] := va_S.rf
  have hI0 := hI
  have hl := lv_entry ([.ref (ad 0), .int a1, .int a2]) (n := 3) (Nat.le_of_ble_eq_true rfl)
  rw [lg_entry_eq]
  generalize (lg_sl ([.ref (ad 0), .int a1, .int a2]) ++ List.replicate (3 - (lg_sl ([.ref (ad 0), .int a1, .int a2])).length) Slot.unset).toArray = ls at hl ⊢
  obtain ⟨H, hH⟩ : ∃ H, H = s.heap := ⟨_, rfl⟩
  obtain ⟨locs, hlocs⟩ : ∃ locs : List Loc, locs = [] := ⟨_, rfl⟩
  have hP : va_P (dC, dI) clsA (wC cI cZ ad x) H := by rw [hH]; exact hP
  have hS : va_S A s.heap H locs := by rw [hH, hlocs]; exact hS
  rw [← hlocs]
  have hW0 : ∀ (R : Room) (Q : State → Prop) (g : JFrame), W p l e R s m ([.ref (ad 0), .int a1, .int a2]).toArray below meth c H locs 0 0 Q g → W p l e R s m ([.ref (ad 0), .int a1, .int a2]).toArray below meth c s.heap locs 0 0 Q g := fun R Q g h => by rw [← hH]; exact h
  refine hW0 _ _ _ ?_
  have hl : lv_has ls 3 [(0, .ref (ad 0)), (1, .int a1), (2, .int a2)] := hl
  refine lv_iload_n hx hb d_Plan_look_0 rfl (lv_at hl 1 rfl) ?_
  refine lv_aload_n hx hb d_Plan_look_1 rfl (lv_at hl 0 rfl) ?_
  refine va_get (D := (dC, dI)) (ci := 8) (v := .int (q_ld x)) (C := R_Plan) (T := F_Plan) (N := 10) hx hb hbw in_Plan hown hK hP 0 rfl rfl 8 (by decide) (hbw _ w_200) (fun _ h9 => h9) rfl d_Plan_look_2 ?_
  refine lv_ldc (v := 99999) hx hb hown (hbw _ w_687) d_Plan_look_5 ?_
  by_cases c_1 : k_Plan_wantWithin a1 (q_ld x) 99999 = 0
  · refine xs (As := [.int a1, .int (q_ld x), .int 99999]) (rest := []) ⟨hx, hb, hml, hown, hts⟩ (c_Plan_wantWithin l dC dI _ _ a1 (q_ld x) 99999 c_1) (cw_Plan_78 hts rfl rfl ⟨Nat.le_of_ble_eq_true rfl, Nat.le_of_ble_eq_true rfl⟩) hK hN hP rfl hl.1 rfl (Nat.le_of_ble_eq_true rfl) d_Plan_look_7 ⟨Nat.zero_le _, Nat.zero_le _⟩ ?_
    refine lv_iload_n hx hb d_Plan_look_10 rfl (lv_at hl 2 rfl) ?_
    refine lv_iconst (v := 1) hx hb d_Plan_look_11 (by decide) ?_
    refine lv_sipush (v := 10000) hx hb d_Plan_look_12 (by decide) ?_
    by_cases c_2 : k_Plan_wantWithin a2 1 10000 = 0
    · refine xs (As := [.int a2, .int 1, .int 10000]) (rest := []) ⟨hx, hb, hml, hown, hts⟩ (c_Plan_wantWithin l dC dI _ _ a2 1 10000 c_2) (cw_Plan_78 hts rfl rfl ⟨Nat.le_of_ble_eq_true rfl, Nat.le_of_ble_eq_true rfl⟩) hK hN hP rfl hl.1 rfl (Nat.le_of_ble_eq_true rfl) d_Plan_look_15 ⟨Nat.zero_le _, Nat.zero_le _⟩ ?_
      refine lv_aload_n hx hb d_Plan_look_18 rfl (lv_at hl 0 rfl) ?_
      refine lv_iload_n hx hb d_Plan_look_19 rfl (lv_at hl 1 rfl) ?_
      refine va_put (D := (dC, dI)) (ci := 8) (v := .int a1) (ty := .int) (C := R_Plan) (T := F_Plan) (N := 10) hx hb hbw in_Plan t_Plan t_Plan_ok n_Plan hown hK hP hD hS 0 rfl rfl 8 (by decide) (hbw _ w_200) (fun _ h9 => h9) rfl (by decide +kernel) rfl rfl (Nat.le_of_ble_eq_true rfl) d_Plan_look_20 (fun H locs hP hD hS => ?_)
      rw [wC_s_ld] at hP hD
      refine lv_aload_n hx hb d_Plan_look_23 rfl (lv_at hl 0 rfl) ?_
      refine lv_iload_n hx hb d_Plan_look_24 rfl (lv_at hl 2 rfl) ?_
      refine va_put (D := (dC, dI)) (ci := 8) (v := .int a2) (ty := .int) (C := R_Plan) (T := F_Plan) (N := 10) hx hb hbw in_Plan t_Plan t_Plan_ok n_Plan hown hK hP hD hS 0 rfl rfl 9 (by decide) (hbw _ w_201) (fun _ h9 => h9) rfl (by decide +kernel) rfl rfl (Nat.le_of_ble_eq_true rfl) d_Plan_look_25 (fun H locs hP hD hS => ?_)
      rw [wC_s_lt] at hP hD
      have hg : g_Plan_look x a1 a2 = (0, s_lt (s_ld x a1) a2) := by unfold g_Plan_look; rw [if_pos c_1, if_pos c_2]
      exact W.toX (W.vret hx hb hr (fun t ht hW => ⟨rfl, ⟨by rw [ht, hg]; exact hP, va_K.moved hW.alike hK, hN.warm hW⟩, hS.F ht⟩) hS.2.2 d_Plan_look_28)
    · exact absurd (show k_Plan_look x a1 a2 = 2 from by unfold k_Plan_look; rw [if_pos c_1, if_neg c_2]) (by rw [hk]; decide)
  · exact absurd (show k_Plan_look x a1 a2 = 2 from by unfold k_Plan_look; rw [if_neg c_1]) (by rw [hk]; decide)
