def k_Plan_wantWithin (a1 a2 a3 : Int32) : Nat := if a1 < a2 then 2 else (if a1 ≤ a3 then 0 else 2)
set_option maxHeartbeats 400000 in
set_option maxRecDepth 100000 in
theorem c_Plan_wantWithin (l : Launch) (dC : Nat → ClassId) (dI : Nat → Nat → Nat) (tys : List (ClassId × FieldType)) (ww : va_W) (a1 a2 a3 : Int32) (hk : k_Plan_wantWithin a1 a2 a3 = 0) : MX l y_Plan_wantWithin (Cond.code y_Plan_wantWithin b_Plan_wantWithin 3 none :: BW) { frames := 0, cells := 0, slots := 0, locals := 0 } (PC (dC, dI) tys ww [.int a1, .int a2, .int a3]) (PQ none) 0 0 (fun _ => False) := by
  refine MX.ofW (cc := b_Plan_wantWithin) (maxL := 3) (ret := none) (by decide) rfl ?_
  intro p e s m args below meth c s₁ B hml hex hv
  obtain ⟨rfl, hP, hK, hN⟩ := hv
  have hx := B.exec
  have hb := B.bytes
  have hr := B.returns
  have hts := atoms_spec (ws := Cond.code y_Plan_wantWithin b_Plan_wantWithin 3 none :: BW) B.pre
  have hbw : ∀ w ∈ BW, w.before ([.int a1, .int a2, .int a3]).toArray s = true := fun w h => hts w (List.mem_cons_of_mem _ h)
  have hown : s.vm.findClass "PlanRows" = some m.cls := findClass_of_methodNamed B.named
  have hlocks := B.notSynchronized
  have hl := lv_entry ([.int a1, .int a2, .int a3]) (n := 3) (Nat.le_of_ble_eq_true rfl)
  rw [lg_entry_eq]
  generalize (lg_sl ([.int a1, .int a2, .int a3]) ++ List.replicate (3 - (lg_sl ([.int a1, .int a2, .int a3])).length) Slot.unset).toArray = ls at hl ⊢
  have hl : lv_has ls 3 [(0, .int a1), (1, .int a2), (2, .int a3)] := hl
  refine lv_iload_n hx hb d_Plan_wantWithin_0 rfl (lv_at hl 0 rfl) ?_
  refine lv_iload_n hx hb d_Plan_wantWithin_1 rfl (lv_at hl 1 rfl) ?_
  refine lv_icmp_lt (tgt := 10) hx hb d_Plan_wantWithin_2 (by decide) (fun c_1 => ?_) (fun c_1 => ?_)
  · exact absurd (show k_Plan_wantWithin a1 a2 a3 = 2 from by unfold k_Plan_wantWithin; rw [if_pos c_1]) (by rw [hk]; decide)
  · refine lv_iload_n hx hb d_Plan_wantWithin_5 rfl (lv_at hl 0 rfl) ?_
    refine lv_iload_n hx hb d_Plan_wantWithin_6 rfl (lv_at hl 2 rfl) ?_
    refine lv_icmp_le (tgt := 20) hx hb d_Plan_wantWithin_7 (by decide) (fun c_2 => ?_) (fun c_2 => ?_)
    · exact W.toX (W.vret hx hb hr (fun t ht hW => ⟨rfl, ht⟩) (fun q hq => by cases hq) d_Plan_wantWithin_20)
    · exact absurd (show k_Plan_wantWithin a1 a2 a3 = 2 from by unfold k_Plan_wantWithin; rw [if_neg c_1, if_neg c_2]) (by rw [hk]; decide)
set_option maxHeartbeats 400000 in
set_option maxRecDepth 100000 in
theorem t_Plan_wantWithin (l : Launch) (htr : l.stackTraces = false) (dC : Nat → ClassId) (dI : Nat → Nat → Nat) (tys : List (ClassId × FieldType)) (ww : va_W) (a1 a2 a3 : Int32) (hk : ¬ k_Plan_wantWithin a1 a2 a3 = 0) : MX l y_Plan_wantWithin (Cond.code y_Plan_wantWithin b_Plan_wantWithin 3 none :: BW) { frames := 6, cells := 1, slots := 6, locals := 82 } (PX (dC, dI) tys ww [.int a1, .int a2, .int a3]) (TQ (xnm 2)) 1 6 (fun _ => False) := by
  refine MX.ofW (cc := b_Plan_wantWithin) (maxL := 3) (ret := none) (by decide) rfl ?_
  intro p e s m args below meth c s₁ B hml hex hv
  obtain ⟨hE, rfl, hP, hK, hN⟩ := hv
  have hx := B.exec
  have hb := B.bytes
  have hr := B.returns
  have hts := atoms_spec (ws := Cond.code y_Plan_wantWithin b_Plan_wantWithin 3 none :: BW) B.pre
  have hbw : ∀ w ∈ BW, w.before ([.int a1, .int a2, .int a3]).toArray s = true := fun w h => hts w (List.mem_cons_of_mem _ h)
  have hown : s.vm.findClass "PlanRows" = some m.cls := findClass_of_methodNamed B.named
  have hlocks := B.notSynchronized
  have hl := lv_entry ([.int a1, .int a2, .int a3]) (n := 3) (Nat.le_of_ble_eq_true rfl)
  rw [lg_entry_eq]
  generalize (lg_sl ([.int a1, .int a2, .int a3]) ++ List.replicate (3 - (lg_sl ([.int a1, .int a2, .int a3])).length) Slot.unset).toArray = ls at hl ⊢
  have hl : lv_has ls 3 [(0, .int a1), (1, .int a2), (2, .int a3)] := hl
  refine lv_iload_n hx hb d_Plan_wantWithin_0 rfl (lv_at hl 0 rfl) ?_
  refine lv_iload_n hx hb d_Plan_wantWithin_1 rfl (lv_at hl 1 rfl) ?_
  refine lv_icmp_lt (tgt := 10) hx hb d_Plan_wantWithin_2 (by decide) (fun c_1 => ?_) (fun c_1 => ?_)
  · obtain ⟨qs, hZ⟩ := hE.2.2.2 (222, "a number is outside its range") (by decide)
    exact x_throw (own := "PlanRows") (Xn := xnm 2) (tx := "a number is outside its range") (names := xup) (qs := qs) hx hb htr hown (by decide +kernel) (by decide +kernel) (hE.hat hbw ow_2) (hbw _ w_308) (hbw _ w_15) hZ hex hml hl.1 hlocks d_Plan_wantWithin_10 d_Plan_wantWithin_13 d_Plan_wantWithin_14 d_Plan_wantWithin_16 d_Plan_wantWithin_19 (Nat.le_of_ble_eq_true rfl) (Nat.le_of_ble_eq_true rfl) (Nat.le_of_ble_eq_true rfl) (Nat.le_of_ble_eq_true rfl)
  · refine lv_iload_n hx hb d_Plan_wantWithin_5 rfl (lv_at hl 0 rfl) ?_
    refine lv_iload_n hx hb d_Plan_wantWithin_6 rfl (lv_at hl 2 rfl) ?_
    refine lv_icmp_le (tgt := 20) hx hb d_Plan_wantWithin_7 (by decide) (fun c_2 => ?_) (fun c_2 => ?_)
    · exact absurd (show k_Plan_wantWithin a1 a2 a3 = 0 from by unfold k_Plan_wantWithin; rw [if_neg c_1, if_pos c_2]) hk
    · obtain ⟨qs, hZ⟩ := hE.2.2.2 (222, "a number is outside its range") (by decide)
      exact x_throw (own := "PlanRows") (Xn := xnm 2) (tx := "a number is outside its range") (names := xup) (qs := qs) hx hb htr hown (by decide +kernel) (by decide +kernel) (hE.hat hbw ow_2) (hbw _ w_308) (hbw _ w_15) hZ hex hml hl.1 hlocks d_Plan_wantWithin_10 d_Plan_wantWithin_13 d_Plan_wantWithin_14 d_Plan_wantWithin_16 d_Plan_wantWithin_19 (Nat.le_of_ble_eq_true rfl) (Nat.le_of_ble_eq_true rfl) (Nat.le_of_ble_eq_true rfl) (Nat.le_of_ble_eq_true rfl)
def k_Plan_wantKind (a1 : Int32) : Nat := if a1 < 0 then 1 else (if a1 ≤ 2 then 0 else 1)
set_option maxHeartbeats 400000 in
set_option maxRecDepth 100000 in
theorem c_Plan_wantKind (l : Launch) (dC : Nat → ClassId) (dI : Nat → Nat → Nat) (tys : List (ClassId × FieldType)) (ww : va_W) (a1 : Int32) (hk : k_Plan_wantKind a1 = 0) : MX l y_Plan_wantKind (Cond.code y_Plan_wantKind b_Plan_wantKind 1 none :: BW) { frames := 0, cells := 0, slots := 0, locals := 0 } (PC (dC, dI) tys ww [.int a1]) (PQ none) 0 0 (fun _ => False) := by
  refine MX.ofW (cc := b_Plan_wantKind) (maxL := 1) (ret := none) (by decide) rfl ?_
  intro p e s m args below meth c s₁ B hml hex hv
  obtain ⟨rfl, hP, hK, hN⟩ := hv
  have hx := B.exec
  have hb := B.bytes
  have hr := B.returns
  have hts := atoms_spec (ws := Cond.code y_Plan_wantKind b_Plan_wantKind 1 none :: BW) B.pre
  have hbw : ∀ w ∈ BW, w.before ([.int a1]).toArray s = true := fun w h => hts w (List.mem_cons_of_mem _ h)
  have hown : s.vm.findClass "PlanRows" = some m.cls := findClass_of_methodNamed B.named
  have hlocks := B.notSynchronized
  have hl := lv_entry ([.int a1]) (n := 1) (Nat.le_of_ble_eq_true rfl)
  rw [lg_entry_eq]
  generalize (lg_sl ([.int a1]) ++ List.replicate (1 - (lg_sl ([.int a1])).length) Slot.unset).toArray = ls at hl ⊢
  have hl : lv_has ls 1 [(0, .int a1)] := hl
  refine lv_iload_n hx hb d_Plan_wantKind_0 rfl (lv_at hl 0 rfl) ?_
  refine lv_if_lt (tgt := 9) hx hb d_Plan_wantKind_1 (by decide) (fun c_1 => ?_) (fun c_1 => ?_)
  · exact absurd (show k_Plan_wantKind a1 = 1 from by unfold k_Plan_wantKind; rw [if_pos c_1]) (by rw [hk]; decide)
  · refine lv_iload_n hx hb d_Plan_wantKind_4 rfl (lv_at hl 0 rfl) ?_
    refine lv_iconst (v := 2) hx hb d_Plan_wantKind_5 (by decide) ?_
    refine lv_icmp_le (tgt := 19) hx hb d_Plan_wantKind_6 (by decide) (fun c_2 => ?_) (fun c_2 => ?_)
    · exact W.toX (W.vret hx hb hr (fun t ht hW => ⟨rfl, ht⟩) (fun q hq => by cases hq) d_Plan_wantKind_19)
    · exact absurd (show k_Plan_wantKind a1 = 1 from by unfold k_Plan_wantKind; rw [if_neg c_1, if_neg c_2]) (by rw [hk]; decide)
set_option maxHeartbeats 400000 in
set_option maxRecDepth 100000 in
theorem t_Plan_wantKind (l : Launch) (htr : l.stackTraces = false) (dC : Nat → ClassId) (dI : Nat → Nat → Nat) (tys : List (ClassId × FieldType)) (ww : va_W) (a1 : Int32) (hk : ¬ k_Plan_wantKind a1 = 0) : MX l y_Plan_wantKind (Cond.code y_Plan_wantKind b_Plan_wantKind 1 none :: BW) { frames := 6, cells := 1, slots := 6, locals := 82 } (PX (dC, dI) tys ww [.int a1]) (TQ (xnm 1)) 1 6 (fun _ => False) := by
  refine MX.ofW (cc := b_Plan_wantKind) (maxL := 1) (ret := none) (by decide) rfl ?_
  intro p e s m args below meth c s₁ B hml hex hv
  obtain ⟨hE, rfl, hP, hK, hN⟩ := hv
  have hx := B.exec
  have hb := B.bytes
  have hr := B.returns
  have hts := atoms_spec (ws := Cond.code y_Plan_wantKind b_Plan_wantKind 1 none :: BW) B.pre
  have hbw : ∀ w ∈ BW, w.before ([.int a1]).toArray s = true := fun w h => hts w (List.mem_cons_of_mem _ h)
  have hown : s.vm.findClass "PlanRows" = some m.cls := findClass_of_methodNamed B.named
  have hlocks := B.notSynchronized
  have hl := lv_entry ([.int a1]) (n := 1) (Nat.le_of_ble_eq_true rfl)
  rw [lg_entry_eq]
  generalize (lg_sl ([.int a1]) ++ List.replicate (1 - (lg_sl ([.int a1])).length) Slot.unset).toArray = ls at hl ⊢
  have hl : lv_has ls 1 [(0, .int a1)] := hl
  refine lv_iload_n hx hb d_Plan_wantKind_0 rfl (lv_at hl 0 rfl) ?_
  refine lv_if_lt (tgt := 9) hx hb d_Plan_wantKind_1 (by decide) (fun c_1 => ?_) (fun c_1 => ?_)
  · obtain ⟨qs, hZ⟩ := hE.2.2.2 (217, "no such kind of rooms") (by decide)
    exact x_throw (own := "PlanRows") (Xn := xnm 1) (tx := "no such kind of rooms") (names := xup) (qs := qs) hx hb htr hown (by decide +kernel) (by decide +kernel) (hE.hat hbw ow_1) (hbw _ w_236) (hbw _ w_14) hZ hex hml hl.1 hlocks d_Plan_wantKind_9 d_Plan_wantKind_12 d_Plan_wantKind_13 d_Plan_wantKind_15 d_Plan_wantKind_18 (Nat.le_of_ble_eq_true rfl) (Nat.le_of_ble_eq_true rfl) (Nat.le_of_ble_eq_true rfl) (Nat.le_of_ble_eq_true rfl)
  · refine lv_iload_n hx hb d_Plan_wantKind_4 rfl (lv_at hl 0 rfl) ?_
    refine lv_iconst (v := 2) hx hb d_Plan_wantKind_5 (by decide) ?_
    refine lv_icmp_le (tgt := 19) hx hb d_Plan_wantKind_6 (by decide) (fun c_2 => ?_) (fun c_2 => ?_)
    · exact absurd (show k_Plan_wantKind a1 = 0 from by unfold k_Plan_wantKind; rw [if_neg c_1, if_pos c_2]) hk
    · obtain ⟨qs, hZ⟩ := hE.2.2.2 (217, "no such kind of rooms") (by decide)
      exact x_throw (own := "PlanRows") (Xn := xnm 1) (tx := "no such kind of rooms") (names := xup) (qs := qs) hx hb htr hown (by decide +kernel) (by decide +kernel) (hE.hat hbw ow_1) (hbw _ w_236) (hbw _ w_14) hZ hex hml hl.1 hlocks d_Plan_wantKind_9 d_Plan_wantKind_12 d_Plan_wantKind_13 d_Plan_wantKind_15 d_Plan_wantKind_18 (Nat.le_of_ble_eq_true rfl) (Nat.le_of_ble_eq_true rfl) (Nat.le_of_ble_eq_true rfl) (Nat.le_of_ble_eq_true rfl)
def k_Plan_wantNotBelowZero (a1 : Int32) : Nat := if 0 ≤ a1 then 0 else 2
set_option maxHeartbeats 400000 in
set_option maxRecDepth 100000 in
theorem c_Plan_wantNotBelowZero (l : Launch) (dC : Nat → ClassId) (dI : Nat → Nat → Nat) (tys : List (ClassId × FieldType)) (ww : va_W) (a1 : Int32) (hk : k_Plan_wantNotBelowZero a1 = 0) : MX l y_Plan_wantNotBelowZero (Cond.code y_Plan_wantNotBelowZero b_Plan_wantNotBelowZero 1 none :: BW) { frames := 0, cells := 0, slots := 0, locals := 0 } (PC (dC, dI) tys ww [.int a1]) (PQ none) 0 0 (fun _ => False) := by
  refine MX.ofW (cc := b_Plan_wantNotBelowZero) (maxL := 1) (ret := none) (by decide) rfl ?_
  intro p e s m args below meth c s₁ B hml hex hv
  obtain ⟨rfl, hP, hK, hN⟩ := hv
  have hx := B.exec
  have hb := B.bytes
  have hr := B.returns
  have hts := atoms_spec (ws := Cond.code y_Plan_wantNotBelowZero b_Plan_wantNotBelowZero 1 none :: BW) B.pre
  have hbw : ∀ w ∈ BW, w.before ([.int a1]).toArray s = true := fun w h => hts w (List.mem_cons_of_mem _ h)
  have hown : s.vm.findClass "PlanRows" = some m.cls := findClass_of_methodNamed B.named
  have hlocks := B.notSynchronized
  have hl := lv_entry ([.int a1]) (n := 1) (Nat.le_of_ble_eq_true rfl)
  rw [lg_entry_eq]
  generalize (lg_sl ([.int a1]) ++ List.replicate (1 - (lg_sl ([.int a1])).length) Slot.unset).toArray = ls at hl ⊢
  have hl : lv_has ls 1 [(0, .int a1)] := hl
  refine lv_iload_n hx hb d_Plan_wantNotBelowZero_0 rfl (lv_at hl 0 rfl) ?_
  refine lv_if_ge (tgt := 14) hx hb d_Plan_wantNotBelowZero_1 (by decide) (fun c_1 => ?_) (fun c_1 => ?_)
  · exact W.toX (W.vret hx hb hr (fun t ht hW => ⟨rfl, ht⟩) (fun q hq => by cases hq) d_Plan_wantNotBelowZero_14)
  · exact absurd (show k_Plan_wantNotBelowZero a1 = 2 from by unfold k_Plan_wantNotBelowZero; rw [if_neg c_1]) (by rw [hk]; decide)
set_option maxHeartbeats 400000 in
set_option maxRecDepth 100000 in
theorem t_Plan_wantNotBelowZero (l : Launch) (htr : l.stackTraces = false) (dC : Nat → ClassId) (dI : Nat → Nat → Nat) (tys : List (ClassId × FieldType)) (ww : va_W) (a1 : Int32) (hk : ¬ k_Plan_wantNotBelowZero a1 = 0) : MX l y_Plan_wantNotBelowZero (Cond.code y_Plan_wantNotBelowZero b_Plan_wantNotBelowZero 1 none :: BW) { frames := 6, cells := 1, slots := 6, locals := 82 } (PX (dC, dI) tys ww [.int a1]) (TQ (xnm 2)) 1 6 (fun _ => False) := by
  refine MX.ofW (cc := b_Plan_wantNotBelowZero) (maxL := 1) (ret := none) (by decide) rfl ?_
  intro p e s m args below meth c s₁ B hml hex hv
  obtain ⟨hE, rfl, hP, hK, hN⟩ := hv
  have hx := B.exec
  have hb := B.bytes
  have hr := B.returns
  have hts := atoms_spec (ws := Cond.code y_Plan_wantNotBelowZero b_Plan_wantNotBelowZero 1 none :: BW) B.pre
  have hbw : ∀ w ∈ BW, w.before ([.int a1]).toArray s = true := fun w h => hts w (List.mem_cons_of_mem _ h)
  have hown : s.vm.findClass "PlanRows" = some m.cls := findClass_of_methodNamed B.named
  have hlocks := B.notSynchronized
  have hl := lv_entry ([.int a1]) (n := 1) (Nat.le_of_ble_eq_true rfl)
  rw [lg_entry_eq]
  generalize (lg_sl ([.int a1]) ++ List.replicate (1 - (lg_sl ([.int a1])).length) Slot.unset).toArray = ls at hl ⊢
  have hl : lv_has ls 1 [(0, .int a1)] := hl
  refine lv_iload_n hx hb d_Plan_wantNotBelowZero_0 rfl (lv_at hl 0 rfl) ?_
  refine lv_if_ge (tgt := 14) hx hb d_Plan_wantNotBelowZero_1 (by decide) (fun c_1 => ?_) (fun c_1 => ?_)
  · exact absurd (show k_Plan_wantNotBelowZero a1 = 0 from by unfold k_Plan_wantNotBelowZero; rw [if_pos c_1]) hk
  · obtain ⟨qs, hZ⟩ := hE.2.2.2 (225, "a place is below 0") (by decide)
    exact x_throw (own := "PlanRows") (Xn := xnm 2) (tx := "a place is below 0") (names := xup) (qs := qs) hx hb htr hown (by decide +kernel) (by decide +kernel) (hE.hat hbw ow_2) (hbw _ w_308) (hbw _ w_15) hZ hex hml hl.1 hlocks d_Plan_wantNotBelowZero_4 d_Plan_wantNotBelowZero_7 d_Plan_wantNotBelowZero_8 d_Plan_wantNotBelowZero_10 d_Plan_wantNotBelowZero_13 (Nat.le_of_ble_eq_true rfl) (Nat.le_of_ble_eq_true rfl) (Nat.le_of_ble_eq_true rfl) (Nat.le_of_ble_eq_true rfl)
def k_Plan_wantRoom (x : ST) (a1 : Int32) : Nat := if (f_Rooms_has x a1) = 0 then 1 else 0
set_option maxHeartbeats 400000 in
set_option maxRecDepth 100000 in
theorem c_Plan_wantRoom (l : Launch) (dC : Nat → ClassId) (dI : Nat → Nat → Nat) (cI cZ : ClassId) (ad : Nat → Nat) (x : ST) (hI : CIn x) (a1 : Int32) (hk : k_Plan_wantRoom x a1 = 0) : MX l y_Plan_wantRoom (Cond.code y_Plan_wantRoom b_Plan_wantRoom 2 none :: BW) { frames := 1, cells := 0, slots := 0, locals := 21 } (PC (dC, dI) [(cI, .int), (cZ, .boolean)] (wC cI cZ ad x) [.ref (ad 0), .int a1]) (PQ none) 0 0 (fun _ => False) := by
  refine MX.ofW (cc := b_Plan_wantRoom) (maxL := 2) (ret := none) (by decide) rfl ?_
  intro p e s m args below meth c s₁ B hml hex hv
  obtain ⟨rfl, hP, hK, hN⟩ := hv
  have hx := B.exec
  have hb := B.bytes
  have hr := B.returns
  have hts := atoms_spec (ws := Cond.code y_Plan_wantRoom b_Plan_wantRoom 2 none :: BW) B.pre
  have hbw : ∀ w ∈ BW, w.before ([.ref (ad 0), .int a1]).toArray s = true := fun w h => hts w (List.mem_cons_of_mem _ h)
  have hown : s.vm.findClass "PlanRows" = some m.cls := findClass_of_methodNamed B.named
  have hlocks := B.notSynchronized
  have hl := lv_entry ([.ref (ad 0), .int a1]) (n := 2) (Nat.le_of_ble_eq_true rfl)
  rw [lg_entry_eq]
  generalize (lg_sl ([.ref (ad 0), .int a1]) ++ List.replicate (2 - (lg_sl ([.ref (ad 0), .int a1])).length) Slot.unset).toArray = ls at hl ⊢
  have hl : lv_has ls 2 [(0, .ref (ad 0)), (1, .int a1)] := hl
  refine lv_aload_n hx hb d_Plan_wantRoom_0 rfl (lv_at hl 0 rfl) ?_
  refine va_get (D := (dC, dI)) (ci := 8) (v := .ref (ad 1)) (C := R_Plan) (T := F_Plan) (N := 10) hx hb hbw in_Plan hown hK hP 0 rfl rfl 0 (by decide) (hbw _ w_192) (fun _ h9 => h9) rfl d_Plan_wantRoom_1 ?_
  refine lv_iload_n hx hb d_Plan_wantRoom_4 rfl (lv_at hl 1 rfl) ?_
  refine xv (As := [.int a1]) (rest := []) (C := "PlanRows$Rooms") ⟨hx, hb, hml, hown, hts⟩ (c_Rooms_has l dC dI cI cZ ad x hI a1) (cw_Plan_211 hts rfl rfl ⟨Nat.le_of_ble_eq_true rfl, Nat.le_of_ble_eq_true rfl⟩) hK hN hP 1 rfl rfl rfl rfl hl.1 rfl (Nat.le_of_ble_eq_true rfl) d_Plan_wantRoom_5 ⟨Nat.zero_le _, Nat.zero_le _⟩ ?_
  refine lv_if_ne (tgt := 21) hx hb d_Plan_wantRoom_8 (by decide) (fun c_1 => ?_) (fun c_1 => ?_)
  · exact W.toX (W.vret hx hb hr (fun t ht hW => ⟨rfl, ht⟩) (fun q hq => by cases hq) d_Plan_wantRoom_21)
  · exact absurd (show k_Plan_wantRoom x a1 = 1 from by unfold k_Plan_wantRoom; rw [if_pos c_1]) (by rw [hk]; decide)
set_option maxHeartbeats 400000 in
set_option maxRecDepth 100000 in
theorem t_Plan_wantRoom (l : Launch) (htr : l.stackTraces = false) (dC : Nat → ClassId) (dI : Nat → Nat → Nat) (cI cZ : ClassId) (ad : Nat → Nat) (x : ST) (hI : CIn x) (a1 : Int32) (hk : ¬ k_Plan_wantRoom x a1 = 0) : MX l y_Plan_wantRoom (Cond.code y_Plan_wantRoom b_Plan_wantRoom 2 none :: BW) { frames := 6, cells := 1, slots := 6, locals := 82 } (PX (dC, dI) [(cI, .int), (cZ, .boolean)] (wC cI cZ ad x) [.ref (ad 0), .int a1]) (TQ (xnm 1)) 1 6 (fun _ => False) := by
  refine MX.ofW (cc := b_Plan_wantRoom) (maxL := 2) (ret := none) (by decide) rfl ?_
  intro p e s m args below meth c s₁ B hml hex hv
  obtain ⟨hE, rfl, hP, hK, hN⟩ := hv
  have hx := B.exec
  have hb := B.bytes
  have hr := B.returns
  have hts := atoms_spec (ws := Cond.code y_Plan_wantRoom b_Plan_wantRoom 2 none :: BW) B.pre
  have hbw : ∀ w ∈ BW, w.before ([.ref (ad 0), .int a1]).toArray s = true := fun w h => hts w (List.mem_cons_of_mem _ h)
  have hown : s.vm.findClass "PlanRows" = some m.cls := findClass_of_methodNamed B.named
  have hlocks := B.notSynchronized
  have hl := lv_entry ([.ref (ad 0), .int a1]) (n := 2) (Nat.le_of_ble_eq_true rfl)
  rw [lg_entry_eq]
  generalize (lg_sl ([.ref (ad 0), .int a1]) ++ List.replicate (2 - (lg_sl ([.ref (ad 0), .int a1])).length) Slot.unset).toArray = ls at hl ⊢
  have hl : lv_has ls 2 [(0, .ref (ad 0)), (1, .int a1)] := hl
  refine lv_aload_n hx hb d_Plan_wantRoom_0 rfl (lv_at hl 0 rfl) ?_
  refine va_get (D := (dC, dI)) (ci := 8) (v := .ref (ad 1)) (C := R_Plan) (T := F_Plan) (N := 10) hx hb hbw in_Plan hown hK hP 0 rfl rfl 0 (by decide) (hbw _ w_192) (fun _ h9 => h9) rfl d_Plan_wantRoom_1 ?_
  refine lv_iload_n hx hb d_Plan_wantRoom_4 rfl (lv_at hl 1 rfl) ?_
  refine xv (As := [.int a1]) (rest := []) (C := "PlanRows$Rooms") ⟨hx, hb, hml, hown, hts⟩ (c_Rooms_has l dC dI cI cZ ad x hI a1) (cw_Plan_211 hts rfl rfl ⟨Nat.le_of_ble_eq_true rfl, Nat.le_of_ble_eq_true rfl⟩) hK hN hP 1 rfl rfl rfl rfl hl.1 rfl (Nat.le_of_ble_eq_true rfl) d_Plan_wantRoom_5 ⟨Nat.zero_le _, Nat.zero_le _⟩ ?_
  refine lv_if_ne (tgt := 21) hx hb d_Plan_wantRoom_8 (by decide) (fun c_1 => ?_) (fun c_1 => ?_)
  · exact absurd (show k_Plan_wantRoom x a1 = 0 from by unfold k_Plan_wantRoom; rw [if_neg c_1]) hk
  · obtain ⟨qs, hZ⟩ := hE.2.2.2 (212, "no such room") (by decide)
    exact x_throw (own := "PlanRows") (Xn := xnm 1) (tx := "no such room") (names := xup) (qs := qs) hx hb htr hown (by decide +kernel) (by decide +kernel) (hE.hat hbw ow_1) (hbw _ w_236) (hbw _ w_14) hZ hex hml hl.1 hlocks d_Plan_wantRoom_11 d_Plan_wantRoom_14 d_Plan_wantRoom_15 d_Plan_wantRoom_17 d_Plan_wantRoom_20 (Nat.le_of_ble_eq_true rfl) (Nat.le_of_ble_eq_true rfl) (Nat.le_of_ble_eq_true rfl) (Nat.le_of_ble_eq_true rfl)
def k_Plan_wantWindow (x : ST) (a1 : Int32) : Nat := if (f_Win_has x a1) = 0 then 1 else 0
set_option maxHeartbeats 400000 in
set_option maxRecDepth 100000 in
theorem c_Plan_wantWindow (l : Launch) (dC : Nat → ClassId) (dI : Nat → Nat → Nat) (cI cZ : ClassId) (ad : Nat → Nat) (x : ST) (hI : CIn x) (a1 : Int32) (hk : k_Plan_wantWindow x a1 = 0) : MX l y_Plan_wantWindow (Cond.code y_Plan_wantWindow b_Plan_wantWindow 2 none :: BW) { frames := 1, cells := 0, slots := 0, locals := 21 } (PC (dC, dI) [(cI, .int), (cZ, .boolean)] (wC cI cZ ad x) [.ref (ad 0), .int a1]) (PQ none) 0 0 (fun _ => False) := by
  refine MX.ofW (cc := b_Plan_wantWindow) (maxL := 2) (ret := none) (by decide) rfl ?_
  intro p e s m args below meth c s₁ B hml hex hv
  obtain ⟨rfl, hP, hK, hN⟩ := hv
  have hx := B.exec
  have hb := B.bytes
  have hr := B.returns
  have hts := atoms_spec (ws := Cond.code y_Plan_wantWindow b_Plan_wantWindow 2 none :: BW) B.pre
  have hbw : ∀ w ∈ BW, w.before ([.ref (ad 0), .int a1]).toArray s = true := fun w h => hts w (List.mem_cons_of_mem _ h)
  have hown : s.vm.findClass "PlanRows" = some m.cls := findClass_of_methodNamed B.named
  have hlocks := B.notSynchronized
  have hl := lv_entry ([.ref (ad 0), .int a1]) (n := 2) (Nat.le_of_ble_eq_true rfl)
  rw [lg_entry_eq]
  generalize (lg_sl ([.ref (ad 0), .int a1]) ++ List.replicate (2 - (lg_sl ([.ref (ad 0), .int a1])).length) Slot.unset).toArray = ls at hl ⊢
  have hl : lv_has ls 2 [(0, .ref (ad 0)), (1, .int a1)] := hl
  refine lv_aload_n hx hb d_Plan_wantWindow_0 rfl (lv_at hl 0 rfl) ?_
  refine va_get (D := (dC, dI)) (ci := 8) (v := .ref (ad 8)) (C := R_Plan) (T := F_Plan) (N := 10) hx hb hbw in_Plan hown hK hP 0 rfl rfl 7 (by decide) (hbw _ w_199) (fun _ h9 => h9) rfl d_Plan_wantWindow_1 ?_
  refine lv_iload_n hx hb d_Plan_wantWindow_4 rfl (lv_at hl 1 rfl) ?_
  refine xv (As := [.int a1]) (rest := []) (C := "PlanRows$Windows") ⟨hx, hb, hml, hown, hts⟩ (c_Win_has l dC dI cI cZ ad x hI a1) (cw_Plan_214 hts rfl rfl ⟨Nat.le_of_ble_eq_true rfl, Nat.le_of_ble_eq_true rfl⟩) hK hN hP 8 rfl rfl rfl rfl hl.1 rfl (Nat.le_of_ble_eq_true rfl) d_Plan_wantWindow_5 ⟨Nat.zero_le _, Nat.zero_le _⟩ ?_
  refine lv_if_ne (tgt := 21) hx hb d_Plan_wantWindow_8 (by decide) (fun c_1 => ?_) (fun c_1 => ?_)
  · exact W.toX (W.vret hx hb hr (fun t ht hW => ⟨rfl, ht⟩) (fun q hq => by cases hq) d_Plan_wantWindow_21)
  · exact absurd (show k_Plan_wantWindow x a1 = 1 from by unfold k_Plan_wantWindow; rw [if_pos c_1]) (by rw [hk]; decide)
set_option maxHeartbeats 400000 in
set_option maxRecDepth 100000 in
theorem t_Plan_wantWindow (l : Launch) (htr : l.stackTraces = false) (dC : Nat → ClassId) (dI : Nat → Nat → Nat) (cI cZ : ClassId) (ad : Nat → Nat) (x : ST) (hI : CIn x) (a1 : Int32) (hk : ¬ k_Plan_wantWindow x a1 = 0) : MX l y_Plan_wantWindow (Cond.code y_Plan_wantWindow b_Plan_wantWindow 2 none :: BW) { frames := 6, cells := 1, slots := 6, locals := 82 } (PX (dC, dI) [(cI, .int), (cZ, .boolean)] (wC cI cZ ad x) [.ref (ad 0), .int a1]) (TQ (xnm 1)) 1 6 (fun _ => False) := by
  refine MX.ofW (cc := b_Plan_wantWindow) (maxL := 2) (ret := none) (by decide) rfl ?_
  intro p e s m args below meth c s₁ B hml hex hv
  obtain ⟨hE, rfl, hP, hK, hN⟩ := hv
  have hx := B.exec
  have hb := B.bytes
  have hr := B.returns
  have hts := atoms_spec (ws := Cond.code y_Plan_wantWindow b_Plan_wantWindow 2 none :: BW) B.pre
  have hbw : ∀ w ∈ BW, w.before ([.ref (ad 0), .int a1]).toArray s = true := fun w h => hts w (List.mem_cons_of_mem _ h)
  have hown : s.vm.findClass "PlanRows" = some m.cls := findClass_of_methodNamed B.named
  have hlocks := B.notSynchronized
  have hl := lv_entry ([.ref (ad 0), .int a1]) (n := 2) (Nat.le_of_ble_eq_true rfl)
  rw [lg_entry_eq]
  generalize (lg_sl ([.ref (ad 0), .int a1]) ++ List.replicate (2 - (lg_sl ([.ref (ad 0), .int a1])).length) Slot.unset).toArray = ls at hl ⊢
  have hl : lv_has ls 2 [(0, .ref (ad 0)), (1, .int a1)] := hl
  refine lv_aload_n hx hb d_Plan_wantWindow_0 rfl (lv_at hl 0 rfl) ?_
  refine va_get (D := (dC, dI)) (ci := 8) (v := .ref (ad 8)) (C := R_Plan) (T := F_Plan) (N := 10) hx hb hbw in_Plan hown hK hP 0 rfl rfl 7 (by decide) (hbw _ w_199) (fun _ h9 => h9) rfl d_Plan_wantWindow_1 ?_
  refine lv_iload_n hx hb d_Plan_wantWindow_4 rfl (lv_at hl 1 rfl) ?_
  refine xv (As := [.int a1]) (rest := []) (C := "PlanRows$Windows") ⟨hx, hb, hml, hown, hts⟩ (c_Win_has l dC dI cI cZ ad x hI a1) (cw_Plan_214 hts rfl rfl ⟨Nat.le_of_ble_eq_true rfl, Nat.le_of_ble_eq_true rfl⟩) hK hN hP 8 rfl rfl rfl rfl hl.1 rfl (Nat.le_of_ble_eq_true rfl) d_Plan_wantWindow_5 ⟨Nat.zero_le _, Nat.zero_le _⟩ ?_
  refine lv_if_ne (tgt := 21) hx hb d_Plan_wantWindow_8 (by decide) (fun c_1 => ?_) (fun c_1 => ?_)
  · exact absurd (show k_Plan_wantWindow x a1 = 0 from by unfold k_Plan_wantWindow; rw [if_neg c_1]) hk
  · obtain ⟨qs, hZ⟩ := hE.2.2.2 (215, "no such window") (by decide)
    exact x_throw (own := "PlanRows") (Xn := xnm 1) (tx := "no such window") (names := xup) (qs := qs) hx hb htr hown (by decide +kernel) (by decide +kernel) (hE.hat hbw ow_1) (hbw _ w_236) (hbw _ w_14) hZ hex hml hl.1 hlocks d_Plan_wantWindow_11 d_Plan_wantWindow_14 d_Plan_wantWindow_15 d_Plan_wantWindow_17 d_Plan_wantWindow_20 (Nat.le_of_ble_eq_true rfl) (Nat.le_of_ble_eq_true rfl) (Nat.le_of_ble_eq_true rfl) (Nat.le_of_ble_eq_true rfl)
def k_Plan_wantAdded (a1 : Int32) : Nat := if a1 = (-1) then 4 else 0
def f_Plan_wantAdded (a1 : Int32) : Int32 := if a1 = (-1) then 0 else a1
set_option maxHeartbeats 400000 in
set_option maxRecDepth 100000 in
theorem c_Plan_wantAdded (l : Launch) (dC : Nat → ClassId) (dI : Nat → Nat → Nat) (tys : List (ClassId × FieldType)) (ww : va_W) (a1 : Int32) (hk : k_Plan_wantAdded a1 = 0) : MX l y_Plan_wantAdded (Cond.code y_Plan_wantAdded b_Plan_wantAdded 1 (some .int) :: BW) { frames := 0, cells := 0, slots := 0, locals := 0 } (PC (dC, dI) tys ww [.int a1]) (PQ (some (.int (f_Plan_wantAdded a1)))) 0 0 (fun _ => False) := by
  refine MX.ofW (cc := b_Plan_wantAdded) (maxL := 1) (ret := (some .int)) (by decide) rfl ?_
  intro p e s m args below meth c s₁ B hml hex hv
  obtain ⟨rfl, hP, hK, hN⟩ := hv
  have hx := B.exec
  have hb := B.bytes
  have hr := B.returns
  have hts := atoms_spec (ws := Cond.code y_Plan_wantAdded b_Plan_wantAdded 1 (some .int) :: BW) B.pre
  have hbw : ∀ w ∈ BW, w.before ([.int a1]).toArray s = true := fun w h => hts w (List.mem_cons_of_mem _ h)
  have hown : s.vm.findClass "PlanRows" = some m.cls := findClass_of_methodNamed B.named
  have hlocks := B.notSynchronized
  have hl := lv_entry ([.int a1]) (n := 1) (Nat.le_of_ble_eq_true rfl)
  rw [lg_entry_eq]
  generalize (lg_sl ([.int a1]) ++ List.replicate (1 - (lg_sl ([.int a1])).length) Slot.unset).toArray = ls at hl ⊢
  have hl : lv_has ls 1 [(0, .int a1)] := hl
  refine lv_iload_n hx hb d_Plan_wantAdded_0 rfl (lv_at hl 0 rfl) ?_
  refine lv_iconst (v := (-1)) hx hb d_Plan_wantAdded_1 (by decide) ?_
  refine lv_icmp_ne (tgt := 15) hx hb d_Plan_wantAdded_2 (by decide) (fun c_1 => ?_) (fun c_1 => ?_)
  · refine lv_iload_n hx hb d_Plan_wantAdded_15 rfl (lv_at hl 0 rfl) ?_
    exact W.toX (W.iret (v := a1) hx hb hr (fun t ht hW => ⟨by rw [show f_Plan_wantAdded a1 = a1 from by unfold f_Plan_wantAdded; rw [if_neg c_1]], ht⟩) (fun q hq => by cases hq) d_Plan_wantAdded_16)
  · exact absurd (show k_Plan_wantAdded a1 = 4 from by unfold k_Plan_wantAdded; rw [if_pos c_1]) (by rw [hk]; decide)
set_option maxHeartbeats 400000 in
set_option maxRecDepth 100000 in
theorem t_Plan_wantAdded (l : Launch) (htr : l.stackTraces = false) (dC : Nat → ClassId) (dI : Nat → Nat → Nat) (tys : List (ClassId × FieldType)) (ww : va_W) (a1 : Int32) (hk : ¬ k_Plan_wantAdded a1 = 0) : MX l y_Plan_wantAdded (Cond.code y_Plan_wantAdded b_Plan_wantAdded 1 (some .int) :: BW) { frames := 6, cells := 1, slots := 6, locals := 82 } (PX (dC, dI) tys ww [.int a1]) (TQ (xnm 4)) 1 6 (fun _ => False) := by
  refine MX.ofW (cc := b_Plan_wantAdded) (maxL := 1) (ret := (some .int)) (by decide) rfl ?_
  intro p e s m args below meth c s₁ B hml hex hv
  obtain ⟨hE, rfl, hP, hK, hN⟩ := hv
  have hx := B.exec
  have hb := B.bytes
  have hr := B.returns
  have hts := atoms_spec (ws := Cond.code y_Plan_wantAdded b_Plan_wantAdded 1 (some .int) :: BW) B.pre
  have hbw : ∀ w ∈ BW, w.before ([.int a1]).toArray s = true := fun w h => hts w (List.mem_cons_of_mem _ h)
  have hown : s.vm.findClass "PlanRows" = some m.cls := findClass_of_methodNamed B.named
  have hlocks := B.notSynchronized
  have hl := lv_entry ([.int a1]) (n := 1) (Nat.le_of_ble_eq_true rfl)
  rw [lg_entry_eq]
  generalize (lg_sl ([.int a1]) ++ List.replicate (1 - (lg_sl ([.int a1])).length) Slot.unset).toArray = ls at hl ⊢
  have hl : lv_has ls 1 [(0, .int a1)] := hl
  refine lv_iload_n hx hb d_Plan_wantAdded_0 rfl (lv_at hl 0 rfl) ?_
  refine lv_iconst (v := (-1)) hx hb d_Plan_wantAdded_1 (by decide) ?_
  refine lv_icmp_ne (tgt := 15) hx hb d_Plan_wantAdded_2 (by decide) (fun c_1 => ?_) (fun c_1 => ?_)
  · refine lv_iload_n hx hb d_Plan_wantAdded_15 rfl (lv_at hl 0 rfl) ?_
    exact absurd (show k_Plan_wantAdded a1 = 0 from by unfold k_Plan_wantAdded; rw [if_neg c_1]) hk
  · obtain ⟨qs, hZ⟩ := hE.2.2.2 (229, "there is no room for one more") (by decide)
    exact x_throw (own := "PlanRows") (Xn := xnm 4) (tx := "there is no room for one more") (names := xup) (qs := qs) hx hb htr hown (by decide +kernel) (by decide +kernel) (hE.hat hbw ow_4) (hbw _ w_331) (hbw _ w_16) hZ hex hml hl.1 hlocks d_Plan_wantAdded_5 d_Plan_wantAdded_8 d_Plan_wantAdded_9 d_Plan_wantAdded_11 d_Plan_wantAdded_14 (Nat.le_of_ble_eq_true rfl) (Nat.le_of_ble_eq_true rfl) (Nat.le_of_ble_eq_true rfl) (Nat.le_of_ble_eq_true rfl)
def k_Plan_wantPoint (a1 a2 a3 : Int32) : Nat := if k_Plan_wantWithin a1 (-200000) 200000 = 0 then (if k_Plan_wantWithin a2 (-200000) 200000 = 0 then (if k_Plan_wantWithin a3 (-200000) 200000 = 0 then 0 else 2) else 2) else 2
set_option maxHeartbeats 400000 in
set_option maxRecDepth 100000 in
theorem c_Plan_wantPoint (l : Launch) (dC : Nat → ClassId) (dI : Nat → Nat → Nat) (tys : List (ClassId × FieldType)) (ww : va_W) (a1 a2 a3 : Int32) (hk : k_Plan_wantPoint a1 a2 a3 = 0) : MX l y_Plan_wantPoint (Cond.code y_Plan_wantPoint b_Plan_wantPoint 3 none :: BW) { frames := 1, cells := 0, slots := 0, locals := 22 } (PC (dC, dI) tys ww [.int a1, .int a2, .int a3]) (PQ none) 0 0 (fun _ => False) := by
  refine MX.ofW (cc := b_Plan_wantPoint) (maxL := 3) (ret := none) (by decide) rfl ?_
  intro p e s m args below meth c s₁ B hml hex hv
  obtain ⟨rfl, hP, hK, hN⟩ := hv
  have hx := B.exec
  have hb := B.bytes
  have hr := B.returns
  have hts := atoms_spec (ws := Cond.code y_Plan_wantPoint b_Plan_wantPoint 3 none :: BW) B.pre
  have hbw : ∀ w ∈ BW, w.before ([.int a1, .int a2, .int a3]).toArray s = true := fun w h => hts w (List.mem_cons_of_mem _ h)
  have hown : s.vm.findClass "PlanRows" = some m.cls := findClass_of_methodNamed B.named
  have hlocks := B.notSynchronized
  have hl := lv_entry ([.int a1, .int a2, .int a3]) (n := 3) (Nat.le_of_ble_eq_true rfl)
  rw [lg_entry_eq]
  generalize (lg_sl ([.int a1, .int a2, .int a3]) ++ List.replicate (3 - (lg_sl ([.int a1, .int a2, .int a3])).length) Slot.unset).toArray = ls at hl ⊢
  have hl : lv_has ls 3 [(0, .int a1), (1, .int a2), (2, .int a3)] := hl
  refine lv_iload_n hx hb d_Plan_wantPoint_0 rfl (lv_at hl 0 rfl) ?_
  refine lv_ldc (v := (-200000)) hx hb hown (hbw _ w_639) d_Plan_wantPoint_1 ?_
  refine lv_ldc (v := 200000) hx hb hown (hbw _ w_640) d_Plan_wantPoint_3 ?_
  by_cases c_1 : k_Plan_wantWithin a1 (-200000) 200000 = 0
  · refine xs (As := [.int a1, .int (-200000), .int 200000]) (rest := []) ⟨hx, hb, hml, hown, hts⟩ (c_Plan_wantWithin l dC dI _ _ a1 (-200000) 200000 c_1) (cw_Plan_78 hts rfl rfl ⟨Nat.le_of_ble_eq_true rfl, Nat.le_of_ble_eq_true rfl⟩) hK hN hP rfl hl.1 rfl (Nat.le_of_ble_eq_true rfl) d_Plan_wantPoint_5 ⟨Nat.zero_le _, Nat.zero_le _⟩ ?_
    refine lv_iload_n hx hb d_Plan_wantPoint_8 rfl (lv_at hl 1 rfl) ?_
    refine lv_ldc (v := (-200000)) hx hb hown (hbw _ w_639) d_Plan_wantPoint_9 ?_
    refine lv_ldc (v := 200000) hx hb hown (hbw _ w_640) d_Plan_wantPoint_11 ?_
    by_cases c_2 : k_Plan_wantWithin a2 (-200000) 200000 = 0
    · refine xs (As := [.int a2, .int (-200000), .int 200000]) (rest := []) ⟨hx, hb, hml, hown, hts⟩ (c_Plan_wantWithin l dC dI _ _ a2 (-200000) 200000 c_2) (cw_Plan_78 hts rfl rfl ⟨Nat.le_of_ble_eq_true rfl, Nat.le_of_ble_eq_true rfl⟩) hK hN hP rfl hl.1 rfl (Nat.le_of_ble_eq_true rfl) d_Plan_wantPoint_13 ⟨Nat.zero_le _, Nat.zero_le _⟩ ?_
      refine lv_iload_n hx hb d_Plan_wantPoint_16 rfl (lv_at hl 2 rfl) ?_
      refine lv_ldc (v := (-200000)) hx hb hown (hbw _ w_639) d_Plan_wantPoint_17 ?_
      refine lv_ldc (v := 200000) hx hb hown (hbw _ w_640) d_Plan_wantPoint_19 ?_
      by_cases c_3 : k_Plan_wantWithin a3 (-200000) 200000 = 0
      · refine xs (As := [.int a3, .int (-200000), .int 200000]) (rest := []) ⟨hx, hb, hml, hown, hts⟩ (c_Plan_wantWithin l dC dI _ _ a3 (-200000) 200000 c_3) (cw_Plan_78 hts rfl rfl ⟨Nat.le_of_ble_eq_true rfl, Nat.le_of_ble_eq_true rfl⟩) hK hN hP rfl hl.1 rfl (Nat.le_of_ble_eq_true rfl) d_Plan_wantPoint_21 ⟨Nat.zero_le _, Nat.zero_le _⟩ ?_
        exact W.toX (W.vret hx hb hr (fun t ht hW => ⟨rfl, ht⟩) (fun q hq => by cases hq) d_Plan_wantPoint_24)
      · exact absurd (show k_Plan_wantPoint a1 a2 a3 = 2 from by unfold k_Plan_wantPoint; rw [if_pos c_1, if_pos c_2, if_neg c_3]) (by rw [hk]; decide)
    · exact absurd (show k_Plan_wantPoint a1 a2 a3 = 2 from by unfold k_Plan_wantPoint; rw [if_pos c_1, if_neg c_2]) (by rw [hk]; decide)
  · exact absurd (show k_Plan_wantPoint a1 a2 a3 = 2 from by unfold k_Plan_wantPoint; rw [if_neg c_1]) (by rw [hk]; decide)
set_option maxHeartbeats 400000 in
set_option maxRecDepth 100000 in
theorem t_Plan_wantPoint (l : Launch) (htr : l.stackTraces = false) (dC : Nat → ClassId) (dI : Nat → Nat → Nat) (tys : List (ClassId × FieldType)) (ww : va_W) (a1 a2 a3 : Int32) (hk : ¬ k_Plan_wantPoint a1 a2 a3 = 0) : MX l y_Plan_wantPoint (Cond.code y_Plan_wantPoint b_Plan_wantPoint 3 none :: BW) { frames := 7, cells := 1, slots := 6, locals := 104 } (PX (dC, dI) tys ww [.int a1, .int a2, .int a3]) (TQ (xnm 2)) 1 6 (fun _ => False) := by
  refine MX.ofW (cc := b_Plan_wantPoint) (maxL := 3) (ret := none) (by decide) rfl ?_
  intro p e s m args below meth c s₁ B hml hex hv
  obtain ⟨hE, rfl, hP, hK, hN⟩ := hv
  have hx := B.exec
  have hb := B.bytes
  have hr := B.returns
  have hts := atoms_spec (ws := Cond.code y_Plan_wantPoint b_Plan_wantPoint 3 none :: BW) B.pre
  have hbw : ∀ w ∈ BW, w.before ([.int a1, .int a2, .int a3]).toArray s = true := fun w h => hts w (List.mem_cons_of_mem _ h)
  have hown : s.vm.findClass "PlanRows" = some m.cls := findClass_of_methodNamed B.named
  have hlocks := B.notSynchronized
  have hl := lv_entry ([.int a1, .int a2, .int a3]) (n := 3) (Nat.le_of_ble_eq_true rfl)
  rw [lg_entry_eq]
  generalize (lg_sl ([.int a1, .int a2, .int a3]) ++ List.replicate (3 - (lg_sl ([.int a1, .int a2, .int a3])).length) Slot.unset).toArray = ls at hl ⊢
  have hl : lv_has ls 3 [(0, .int a1), (1, .int a2), (2, .int a3)] := hl
  refine lv_iload_n hx hb d_Plan_wantPoint_0 rfl (lv_at hl 0 rfl) ?_
  refine lv_ldc (v := (-200000)) hx hb hown (hbw _ w_639) d_Plan_wantPoint_1 ?_
  refine lv_ldc (v := 200000) hx hb hown (hbw _ w_640) d_Plan_wantPoint_3 ?_
  by_cases c_1 : k_Plan_wantWithin a1 (-200000) 200000 = 0
  · refine xs (As := [.int a1, .int (-200000), .int 200000]) (rest := []) ⟨hx, hb, hml, hown, hts⟩ (c_Plan_wantWithin l dC dI _ _ a1 (-200000) 200000 c_1) (cw_Plan_78 hts rfl rfl ⟨Nat.le_of_ble_eq_true rfl, Nat.le_of_ble_eq_true rfl⟩) hK hN hP rfl hl.1 rfl (Nat.le_of_ble_eq_true rfl) d_Plan_wantPoint_5 ⟨Nat.zero_le _, Nat.zero_le _⟩ ?_
    refine lv_iload_n hx hb d_Plan_wantPoint_8 rfl (lv_at hl 1 rfl) ?_
    refine lv_ldc (v := (-200000)) hx hb hown (hbw _ w_639) d_Plan_wantPoint_9 ?_
    refine lv_ldc (v := 200000) hx hb hown (hbw _ w_640) d_Plan_wantPoint_11 ?_
    by_cases c_2 : k_Plan_wantWithin a2 (-200000) 200000 = 0
    · refine xs (As := [.int a2, .int (-200000), .int 200000]) (rest := []) ⟨hx, hb, hml, hown, hts⟩ (c_Plan_wantWithin l dC dI _ _ a2 (-200000) 200000 c_2) (cw_Plan_78 hts rfl rfl ⟨Nat.le_of_ble_eq_true rfl, Nat.le_of_ble_eq_true rfl⟩) hK hN hP rfl hl.1 rfl (Nat.le_of_ble_eq_true rfl) d_Plan_wantPoint_13 ⟨Nat.zero_le _, Nat.zero_le _⟩ ?_
      refine lv_iload_n hx hb d_Plan_wantPoint_16 rfl (lv_at hl 2 rfl) ?_
      refine lv_ldc (v := (-200000)) hx hb hown (hbw _ w_639) d_Plan_wantPoint_17 ?_
      refine lv_ldc (v := 200000) hx hb hown (hbw _ w_640) d_Plan_wantPoint_19 ?_
      by_cases c_3 : k_Plan_wantWithin a3 (-200000) 200000 = 0
      · refine xs (As := [.int a3, .int (-200000), .int 200000]) (rest := []) ⟨hx, hb, hml, hown, hts⟩ (c_Plan_wantWithin l dC dI _ _ a3 (-200000) 200000 c_3) (cw_Plan_78 hts rfl rfl ⟨Nat.le_of_ble_eq_true rfl, Nat.le_of_ble_eq_true rfl⟩) hK hN hP rfl hl.1 rfl (Nat.le_of_ble_eq_true rfl) d_Plan_wantPoint_21 ⟨Nat.zero_le _, Nat.zero_le _⟩ ?_
        exact absurd (show k_Plan_wantPoint a1 a2 a3 = 0 from by unfold k_Plan_wantPoint; rw [if_pos c_1, if_pos c_2, if_pos c_3]) hk
      · exact x_thrown (x_runS (As := [.int a3, .int (-200000), .int 200000]) (rest := []) ⟨hx, hb, hml, hown, hts⟩ (t_Plan_wantWithin l htr dC dI _ _ a3 (-200000) 200000 c_3) (cw_Plan_78 hts rfl rfl ⟨Nat.le_of_ble_eq_true rfl, Nat.le_of_ble_eq_true rfl⟩) ⟨PX.blind, PX.at hE hK hN hP⟩ rfl rfl hl.1 rfl (lv_room (Nat.le_of_ble_eq_true rfl)) d_Plan_wantPoint_21 ⟨Nat.le_of_ble_eq_true rfl, Nat.le_of_ble_eq_true rfl⟩) hex hlocks
    · exact x_thrown (x_runS (As := [.int a2, .int (-200000), .int 200000]) (rest := []) ⟨hx, hb, hml, hown, hts⟩ (t_Plan_wantWithin l htr dC dI _ _ a2 (-200000) 200000 c_2) (cw_Plan_78 hts rfl rfl ⟨Nat.le_of_ble_eq_true rfl, Nat.le_of_ble_eq_true rfl⟩) ⟨PX.blind, PX.at hE hK hN hP⟩ rfl rfl hl.1 rfl (lv_room (Nat.le_of_ble_eq_true rfl)) d_Plan_wantPoint_13 ⟨Nat.le_of_ble_eq_true rfl, Nat.le_of_ble_eq_true rfl⟩) hex hlocks
  · exact x_thrown (x_runS (As := [.int a1, .int (-200000), .int 200000]) (rest := []) ⟨hx, hb, hml, hown, hts⟩ (t_Plan_wantWithin l htr dC dI _ _ a1 (-200000) 200000 c_1) (cw_Plan_78 hts rfl rfl ⟨Nat.le_of_ble_eq_true rfl, Nat.le_of_ble_eq_true rfl⟩) ⟨PX.blind, PX.at hE hK hN hP⟩ rfl rfl hl.1 rfl (lv_room (Nat.le_of_ble_eq_true rfl)) d_Plan_wantPoint_5 ⟨Nat.le_of_ble_eq_true rfl, Nat.le_of_ble_eq_true rfl⟩) hex hlocks
def k_Plan_step (x : ST) (a1 : Int32) : Nat := if k_Plan_wantNotBelowZero a1 = 0 then 0 else 2
def f_Plan_step (x : ST) (a1 : Int32) : Int32 := if k_Plan_wantNotBelowZero a1 = 0 then (f_Route_doorAt x a1) else 0
set_option maxHeartbeats 400000 in
set_option maxRecDepth 100000 in
theorem c_Plan_step (l : Launch) (dC : Nat → ClassId) (dI : Nat → Nat → Nat) (cI cZ : ClassId) (ad : Nat → Nat) (x : ST) (hI : CIn x) (a1 : Int32) (hk : k_Plan_step x a1 = 0) : MX l y_Plan_step (Cond.code y_Plan_step b_Plan_step 2 (some .int) :: BW) { frames := 1, cells := 0, slots := 0, locals := 21 } (PC (dC, dI) [(cI, .int), (cZ, .boolean)] (wC cI cZ ad x) [.ref (ad 0), .int a1]) (PQ (some (.int (f_Plan_step x a1)))) 0 0 (fun _ => False) := by
  refine MX.ofW (cc := b_Plan_step) (maxL := 2) (ret := (some .int)) (by decide) rfl ?_
  intro p e s m args below meth c s₁ B hml hex hv
  obtain ⟨rfl, hP, hK, hN⟩ := hv
  have hx := B.exec
  have hb := B.bytes
  have hr := B.returns
  have hts := atoms_spec (ws := Cond.code y_Plan_step b_Plan_step 2 (some .int) :: BW) B.pre
  have hbw : ∀ w ∈ BW, w.before ([.ref (ad 0), .int a1]).toArray s = true := fun w h => hts w (List.mem_cons_of_mem _ h)
  have hown : s.vm.findClass "PlanRows" = some m.cls := findClass_of_methodNamed B.named
  have hlocks := B.notSynchronized
  have hl := lv_entry ([.ref (ad 0), .int a1]) (n := 2) (Nat.le_of_ble_eq_true rfl)
  rw [lg_entry_eq]
  generalize (lg_sl ([.ref (ad 0), .int a1]) ++ List.replicate (2 - (lg_sl ([.ref (ad 0), .int a1])).length) Slot.unset).toArray = ls at hl ⊢
  have hl : lv_has ls 2 [(0, .ref (ad 0)), (1, .int a1)] := hl
  refine lv_iload_n hx hb d_Plan_step_0 rfl (lv_at hl 1 rfl) ?_
  by_cases c_1 : k_Plan_wantNotBelowZero a1 = 0
  · refine xs (As := [.int a1]) (rest := []) ⟨hx, hb, hml, hown, hts⟩ (c_Plan_wantNotBelowZero l dC dI _ _ a1 c_1) (cw_Plan_146 hts rfl rfl ⟨Nat.le_of_ble_eq_true rfl, Nat.le_of_ble_eq_true rfl⟩) hK hN hP rfl hl.1 rfl (Nat.le_of_ble_eq_true rfl) d_Plan_step_1 ⟨Nat.zero_le _, Nat.zero_le _⟩ ?_
    refine lv_aload_n hx hb d_Plan_step_4 rfl (lv_at hl 0 rfl) ?_
    refine va_get (D := (dC, dI)) (ci := 8) (v := .ref (ad 5)) (C := R_Plan) (T := F_Plan) (N := 10) hx hb hbw in_Plan hown hK hP 0 rfl rfl 4 (by decide) (hbw _ w_196) (fun _ h9 => h9) rfl d_Plan_step_5 ?_
    refine lv_iload_n hx hb d_Plan_step_8 rfl (lv_at hl 1 rfl) ?_
    refine xv (As := [.int a1]) (rest := []) (C := "PlanRows$Route") ⟨hx, hb, hml, hown, hts⟩ (c_Route_doorAt l dC dI cI cZ ad x hI a1) (cw_Plan_149 hts rfl rfl ⟨Nat.le_of_ble_eq_true rfl, Nat.le_of_ble_eq_true rfl⟩) hK hN hP 5 rfl rfl rfl rfl hl.1 rfl (Nat.le_of_ble_eq_true rfl) d_Plan_step_9 ⟨Nat.zero_le _, Nat.zero_le _⟩ ?_
    exact W.toX (W.iret (v := f_Route_doorAt x a1) hx hb hr (fun t ht hW => ⟨by rw [show f_Plan_step x a1 = f_Route_doorAt x a1 from by unfold f_Plan_step; rw [if_pos c_1]], ht⟩) (fun q hq => by cases hq) d_Plan_step_12)
  · exact absurd (show k_Plan_step x a1 = 2 from by unfold k_Plan_step; rw [if_neg c_1]) (by rw [hk]; decide)
set_option maxHeartbeats 400000 in
set_option maxRecDepth 100000 in
theorem t_Plan_step (l : Launch) (htr : l.stackTraces = false) (dC : Nat → ClassId) (dI : Nat → Nat → Nat) (cI cZ : ClassId) (ad : Nat → Nat) (x : ST) (hI : CIn x) (a1 : Int32) (hk : ¬ k_Plan_step x a1 = 0) : MX l y_Plan_step (Cond.code y_Plan_step b_Plan_step 2 (some .int) :: BW) { frames := 7, cells := 1, slots := 6, locals := 102 } (PX (dC, dI) [(cI, .int), (cZ, .boolean)] (wC cI cZ ad x) [.ref (ad 0), .int a1]) (TQ (xnm (k_Plan_step x a1))) 1 6 (fun _ => False) := by
  refine MX.ofW (cc := b_Plan_step) (maxL := 2) (ret := (some .int)) (by decide) rfl ?_
  intro p e s m args below meth c s₁ B hml hex hv
  obtain ⟨hE, rfl, hP, hK, hN⟩ := hv
  have hx := B.exec
  have hb := B.bytes
  have hr := B.returns
  have hts := atoms_spec (ws := Cond.code y_Plan_step b_Plan_step 2 (some .int) :: BW) B.pre
  have hbw : ∀ w ∈ BW, w.before ([.ref (ad 0), .int a1]).toArray s = true := fun w h => hts w (List.mem_cons_of_mem _ h)
  have hown : s.vm.findClass "PlanRows" = some m.cls := findClass_of_methodNamed B.named
  have hlocks := B.notSynchronized
  have hl := lv_entry ([.ref (ad 0), .int a1]) (n := 2) (Nat.le_of_ble_eq_true rfl)
  rw [lg_entry_eq]
  generalize (lg_sl ([.ref (ad 0), .int a1]) ++ List.replicate (2 - (lg_sl ([.ref (ad 0), .int a1])).length) Slot.unset).toArray = ls at hl ⊢
  have hl : lv_has ls 2 [(0, .ref (ad 0)), (1, .int a1)] := hl
  refine lv_iload_n hx hb d_Plan_step_0 rfl (lv_at hl 1 rfl) ?_
  by_cases c_1 : k_Plan_wantNotBelowZero a1 = 0
  · refine xs (As := [.int a1]) (rest := []) ⟨hx, hb, hml, hown, hts⟩ (c_Plan_wantNotBelowZero l dC dI _ _ a1 c_1) (cw_Plan_146 hts rfl rfl ⟨Nat.le_of_ble_eq_true rfl, Nat.le_of_ble_eq_true rfl⟩) hK hN hP rfl hl.1 rfl (Nat.le_of_ble_eq_true rfl) d_Plan_step_1 ⟨Nat.zero_le _, Nat.zero_le _⟩ ?_
    refine lv_aload_n hx hb d_Plan_step_4 rfl (lv_at hl 0 rfl) ?_
    refine va_get (D := (dC, dI)) (ci := 8) (v := .ref (ad 5)) (C := R_Plan) (T := F_Plan) (N := 10) hx hb hbw in_Plan hown hK hP 0 rfl rfl 4 (by decide) (hbw _ w_196) (fun _ h9 => h9) rfl d_Plan_step_5 ?_
    refine lv_iload_n hx hb d_Plan_step_8 rfl (lv_at hl 1 rfl) ?_
    refine xv (As := [.int a1]) (rest := []) (C := "PlanRows$Route") ⟨hx, hb, hml, hown, hts⟩ (c_Route_doorAt l dC dI cI cZ ad x hI a1) (cw_Plan_149 hts rfl rfl ⟨Nat.le_of_ble_eq_true rfl, Nat.le_of_ble_eq_true rfl⟩) hK hN hP 5 rfl rfl rfl rfl hl.1 rfl (Nat.le_of_ble_eq_true rfl) d_Plan_step_9 ⟨Nat.zero_le _, Nat.zero_le _⟩ ?_
    exact absurd (show k_Plan_step x a1 = 0 from by unfold k_Plan_step; rw [if_pos c_1]) hk
  · rw [show k_Plan_step x a1 = 2 from by unfold k_Plan_step; rw [if_neg c_1]]
    exact x_thrown (x_runS (As := [.int a1]) (rest := []) ⟨hx, hb, hml, hown, hts⟩ (t_Plan_wantNotBelowZero l htr dC dI _ _ a1 c_1) (cw_Plan_146 hts rfl rfl ⟨Nat.le_of_ble_eq_true rfl, Nat.le_of_ble_eq_true rfl⟩) ⟨PX.blind, PX.at hE hK hN hP⟩ rfl rfl hl.1 rfl (lv_room (Nat.le_of_ble_eq_true rfl)) d_Plan_step_1 ⟨Nat.le_of_ble_eq_true rfl, Nat.le_of_ble_eq_true rfl⟩) hex hlocks
def k_Plan_alarm (x : ST) (a1 a2 : Int32) : Nat := if k_Plan_wantWithin a1 1 9 = 0 then (if k_Plan_wantWithin a2 1 99 = 0 then (if (f_Det_roomOf x a1 a2) = (-1) then 0 else 0) else 2) else 2
def f_Plan_alarm (x : ST) (a1 a2 : Int32) : Int32 := if k_Plan_wantWithin a1 1 9 = 0 then (if k_Plan_wantWithin a2 1 99 = 0 then (if (f_Det_roomOf x a1 a2) = (-1) then ((-1) - a1) else (f_Det_roomOf x a1 a2)) else 0) else 0
set_option maxHeartbeats 400000 in
set_option maxRecDepth 100000 in
theorem c_Plan_alarm (l : Launch) (dC : Nat → ClassId) (dI : Nat → Nat → Nat) (cI cZ : ClassId) (ad : Nat → Nat) (x : ST) (hI : CIn x) (a1 a2 : Int32) (hk : k_Plan_alarm x a1 a2 = 0) : MX l y_Plan_alarm (Cond.code y_Plan_alarm b_Plan_alarm 4 (some .int) :: BW) { frames := 1, cells := 0, slots := 0, locals := 23 } (PC (dC, dI) [(cI, .int), (cZ, .boolean)] (wC cI cZ ad x) [.ref (ad 0), .int a1, .int a2]) (PQ (some (.int (f_Plan_alarm x a1 a2)))) 0 0 (fun _ => False) := by
  refine MX.ofW (cc := b_Plan_alarm) (maxL := 4) (ret := (some .int)) (by decide) rfl ?_
  intro p e s m args below meth c s₁ B hml hex hv
  obtain ⟨rfl, hP, hK, hN⟩ := hv
  have hx := B.exec
  have hb := B.bytes
  have hr := B.returns
  have hts := atoms_spec (ws := Cond.code y_Plan_alarm b_Plan_alarm 4 (some .int) :: BW) B.pre
  have hbw : ∀ w ∈ BW, w.before ([.ref (ad 0), .int a1, .int a2]).toArray s = true := fun w h => hts w (List.mem_cons_of_mem _ h)
  have hown : s.vm.findClass "PlanRows" = some m.cls := findClass_of_methodNamed B.named
  have hlocks := B.notSynchronized
  have hl := lv_entry ([.ref (ad 0), .int a1, .int a2]) (n := 4) (Nat.le_of_ble_eq_true rfl)
  rw [lg_entry_eq]
  generalize (lg_sl ([.ref (ad 0), .int a1, .int a2]) ++ List.replicate (4 - (lg_sl ([.ref (ad 0), .int a1, .int a2])).length) Slot.unset).toArray = ls at hl ⊢
  have hl : lv_has ls 4 [(0, .ref (ad 0)), (1, .int a1), (2, .int a2)] := hl
  refine lv_iload_n hx hb d_Plan_alarm_0 rfl (lv_at hl 1 rfl) ?_
  refine lv_iconst (v := 1) hx hb d_Plan_alarm_1 (by decide) ?_
  refine lv_bipush (v := 9) hx hb d_Plan_alarm_2 (by decide) ?_
  by_cases c_1 : k_Plan_wantWithin a1 1 9 = 0
  · refine xs (As := [.int a1, .int 1, .int 9]) (rest := []) ⟨hx, hb, hml, hown, hts⟩ (c_Plan_wantWithin l dC dI _ _ a1 1 9 c_1) (cw_Plan_78 hts rfl rfl ⟨Nat.le_of_ble_eq_true rfl, Nat.le_of_ble_eq_true rfl⟩) hK hN hP rfl hl.1 rfl (Nat.le_of_ble_eq_true rfl) d_Plan_alarm_4 ⟨Nat.zero_le _, Nat.zero_le _⟩ ?_
    refine lv_iload_n hx hb d_Plan_alarm_7 rfl (lv_at hl 2 rfl) ?_
    refine lv_iconst (v := 1) hx hb d_Plan_alarm_8 (by decide) ?_
    refine lv_bipush (v := 99) hx hb d_Plan_alarm_9 (by decide) ?_
    by_cases c_2 : k_Plan_wantWithin a2 1 99 = 0
    · refine xs (As := [.int a2, .int 1, .int 99]) (rest := []) ⟨hx, hb, hml, hown, hts⟩ (c_Plan_wantWithin l dC dI _ _ a2 1 99 c_2) (cw_Plan_78 hts rfl rfl ⟨Nat.le_of_ble_eq_true rfl, Nat.le_of_ble_eq_true rfl⟩) hK hN hP rfl hl.1 rfl (Nat.le_of_ble_eq_true rfl) d_Plan_alarm_11 ⟨Nat.zero_le _, Nat.zero_le _⟩ ?_
      refine lv_aload_n hx hb d_Plan_alarm_14 rfl (lv_at hl 0 rfl) ?_
      refine va_get (D := (dC, dI)) (ci := 8) (v := .ref (ad 6)) (C := R_Plan) (T := F_Plan) (N := 10) hx hb hbw in_Plan hown hK hP 0 rfl rfl 5 (by decide) (hbw _ w_197) (fun _ h9 => h9) rfl d_Plan_alarm_15 ?_
      refine lv_iload_n hx hb d_Plan_alarm_18 rfl (lv_at hl 1 rfl) ?_
      refine lv_iload_n hx hb d_Plan_alarm_19 rfl (lv_at hl 2 rfl) ?_
      refine xv (As := [.int a1, .int a2]) (rest := []) (C := "PlanRows$Detectors") ⟨hx, hb, hml, hown, hts⟩ (c_Det_roomOf l dC dI cI cZ ad x hI a1 a2) (cw_Plan_172 hts rfl rfl ⟨Nat.le_of_ble_eq_true rfl, Nat.le_of_ble_eq_true rfl⟩) hK hN hP 6 rfl rfl rfl rfl hl.1 rfl (Nat.le_of_ble_eq_true rfl) d_Plan_alarm_20 ⟨Nat.zero_le _, Nat.zero_le _⟩ ?_
      refine lv_istore_n (lv' := [(3, .int (f_Det_roomOf x a1 a2)), (0, .ref (ad 0)), (1, .int a1), (2, .int a2)]) hx hb d_Plan_alarm_23 rfl hl (by decide) rfl (fun ls hl => ?_)
      refine lv_iload_n hx hb d_Plan_alarm_24 rfl (lv_at hl 0 rfl) ?_
      refine lv_iconst (v := (-1)) hx hb d_Plan_alarm_25 (by decide) ?_
      refine lv_icmp_ne (tgt := 35) hx hb d_Plan_alarm_26 (by decide) (fun c_3 => ?_) (fun c_3 => ?_)
      · refine lv_iload_n hx hb d_Plan_alarm_35 rfl (lv_at hl 0 rfl) ?_
        exact W.toX (W.iret (v := f_Det_roomOf x a1 a2) hx hb hr (fun t ht hW => ⟨by rw [show f_Plan_alarm x a1 a2 = f_Det_roomOf x a1 a2 from by unfold f_Plan_alarm; rw [if_pos c_1, if_pos c_2, if_neg c_3]], ht⟩) (fun q hq => by cases hq) d_Plan_alarm_36)
      · refine lv_iconst (v := (-1)) hx hb d_Plan_alarm_29 (by decide) ?_
        refine lv_iload_n hx hb d_Plan_alarm_30 rfl (lv_at hl 2 rfl) ?_
        refine lv_isub hx hb d_Plan_alarm_31 ?_
        refine lv_goto (tgt := 36) hx hb d_Plan_alarm_32 (by decide) ?_
        exact W.toX (W.iret (v := (-1) - a1) hx hb hr (fun t ht hW => ⟨by rw [show f_Plan_alarm x a1 a2 = (-1) - a1 from by unfold f_Plan_alarm; rw [if_pos c_1, if_pos c_2, if_pos c_3]], ht⟩) (fun q hq => by cases hq) d_Plan_alarm_36)
    · exact absurd (show k_Plan_alarm x a1 a2 = 2 from by unfold k_Plan_alarm; rw [if_pos c_1, if_neg c_2]) (by rw [hk]; decide)
  · exact absurd (show k_Plan_alarm x a1 a2 = 2 from by unfold k_Plan_alarm; rw [if_neg c_1]) (by rw [hk]; decide)
set_option maxHeartbeats 400000 in
set_option maxRecDepth 100000 in
theorem t_Plan_alarm (l : Launch) (htr : l.stackTraces = false) (dC : Nat → ClassId) (dI : Nat → Nat → Nat) (cI cZ : ClassId) (ad : Nat → Nat) (x : ST) (hI : CIn x) (a1 a2 : Int32) (hk : ¬ k_Plan_alarm x a1 a2 = 0) : MX l y_Plan_alarm (Cond.code y_Plan_alarm b_Plan_alarm 4 (some .int) :: BW) { frames := 7, cells := 1, slots := 6, locals := 104 } (PX (dC, dI) [(cI, .int), (cZ, .boolean)] (wC cI cZ ad x) [.ref (ad 0), .int a1, .int a2]) (TQ (xnm (k_Plan_alarm x a1 a2))) 1 6 (fun _ => False) := by
  refine MX.ofW (cc := b_Plan_alarm) (maxL := 4) (ret := (some .int)) (by decide) rfl ?_
  intro p e s m args below meth c s₁ B hml hex hv
  obtain ⟨hE, rfl, hP, hK, hN⟩ := hv
  have hx := B.exec
  have hb := B.bytes
  have hr := B.returns
  have hts := atoms_spec (ws := Cond.code y_Plan_alarm b_Plan_alarm 4 (some .int) :: BW) B.pre
  have hbw : ∀ w ∈ BW, w.before ([.ref (ad 0), .int a1, .int a2]).toArray s = true := fun w h => hts w (List.mem_cons_of_mem _ h)
  have hown : s.vm.findClass "PlanRows" = some m.cls := findClass_of_methodNamed B.named
  have hlocks := B.notSynchronized
  have hl := lv_entry ([.ref (ad 0), .int a1, .int a2]) (n := 4) (Nat.le_of_ble_eq_true rfl)
  rw [lg_entry_eq]
  generalize (lg_sl ([.ref (ad 0), .int a1, .int a2]) ++ List.replicate (4 - (lg_sl ([.ref (ad 0), .int a1, .int a2])).length) Slot.unset).toArray = ls at hl ⊢
  have hl : lv_has ls 4 [(0, .ref (ad 0)), (1, .int a1), (2, .int a2)] := hl
  refine lv_iload_n hx hb d_Plan_alarm_0 rfl (lv_at hl 1 rfl) ?_
  refine lv_iconst (v := 1) hx hb d_Plan_alarm_1 (by decide) ?_
  refine lv_bipush (v := 9) hx hb d_Plan_alarm_2 (by decide) ?_
  by_cases c_1 : k_Plan_wantWithin a1 1 9 = 0
  · refine xs (As := [.int a1, .int 1, .int 9]) (rest := []) ⟨hx, hb, hml, hown, hts⟩ (c_Plan_wantWithin l dC dI _ _ a1 1 9 c_1) (cw_Plan_78 hts rfl rfl ⟨Nat.le_of_ble_eq_true rfl, Nat.le_of_ble_eq_true rfl⟩) hK hN hP rfl hl.1 rfl (Nat.le_of_ble_eq_true rfl) d_Plan_alarm_4 ⟨Nat.zero_le _, Nat.zero_le _⟩ ?_
    refine lv_iload_n hx hb d_Plan_alarm_7 rfl (lv_at hl 2 rfl) ?_
    refine lv_iconst (v := 1) hx hb d_Plan_alarm_8 (by decide) ?_
    refine lv_bipush (v := 99) hx hb d_Plan_alarm_9 (by decide) ?_
    by_cases c_2 : k_Plan_wantWithin a2 1 99 = 0
    · refine xs (As := [.int a2, .int 1, .int 99]) (rest := []) ⟨hx, hb, hml, hown, hts⟩ (c_Plan_wantWithin l dC dI _ _ a2 1 99 c_2) (cw_Plan_78 hts rfl rfl ⟨Nat.le_of_ble_eq_true rfl, Nat.le_of_ble_eq_true rfl⟩) hK hN hP rfl hl.1 rfl (Nat.le_of_ble_eq_true rfl) d_Plan_alarm_11 ⟨Nat.zero_le _, Nat.zero_le _⟩ ?_
      refine lv_aload_n hx hb d_Plan_alarm_14 rfl (lv_at hl 0 rfl) ?_
      refine va_get (D := (dC, dI)) (ci := 8) (v := .ref (ad 6)) (C := R_Plan) (T := F_Plan) (N := 10) hx hb hbw in_Plan hown hK hP 0 rfl rfl 5 (by decide) (hbw _ w_197) (fun _ h9 => h9) rfl d_Plan_alarm_15 ?_
      refine lv_iload_n hx hb d_Plan_alarm_18 rfl (lv_at hl 1 rfl) ?_
      refine lv_iload_n hx hb d_Plan_alarm_19 rfl (lv_at hl 2 rfl) ?_
      refine xv (As := [.int a1, .int a2]) (rest := []) (C := "PlanRows$Detectors") ⟨hx, hb, hml, hown, hts⟩ (c_Det_roomOf l dC dI cI cZ ad x hI a1 a2) (cw_Plan_172 hts rfl rfl ⟨Nat.le_of_ble_eq_true rfl, Nat.le_of_ble_eq_true rfl⟩) hK hN hP 6 rfl rfl rfl rfl hl.1 rfl (Nat.le_of_ble_eq_true rfl) d_Plan_alarm_20 ⟨Nat.zero_le _, Nat.zero_le _⟩ ?_
      refine lv_istore_n (lv' := [(3, .int (f_Det_roomOf x a1 a2)), (0, .ref (ad 0)), (1, .int a1), (2, .int a2)]) hx hb d_Plan_alarm_23 rfl hl (by decide) rfl (fun ls hl => ?_)
      refine lv_iload_n hx hb d_Plan_alarm_24 rfl (lv_at hl 0 rfl) ?_
      refine lv_iconst (v := (-1)) hx hb d_Plan_alarm_25 (by decide) ?_
      refine lv_icmp_ne (tgt := 35) hx hb d_Plan_alarm_26 (by decide) (fun c_3 => ?_) (fun c_3 => ?_)
      · refine lv_iload_n hx hb d_Plan_alarm_35 rfl (lv_at hl 0 rfl) ?_
        exact absurd (show k_Plan_alarm x a1 a2 = 0 from by unfold k_Plan_alarm; rw [if_pos c_1, if_pos c_2, if_neg c_3]) hk
      · refine lv_iconst (v := (-1)) hx hb d_Plan_alarm_29 (by decide) ?_
        refine lv_iload_n hx hb d_Plan_alarm_30 rfl (lv_at hl 2 rfl) ?_
        refine lv_isub hx hb d_Plan_alarm_31 ?_
        refine lv_goto (tgt := 36) hx hb d_Plan_alarm_32 (by decide) ?_
        exact absurd (show k_Plan_alarm x a1 a2 = 0 from by unfold k_Plan_alarm; rw [if_pos c_1, if_pos c_2, if_pos c_3]) hk
    · rw [show k_Plan_alarm x a1 a2 = 2 from by unfold k_Plan_alarm; rw [if_pos c_1, if_neg c_2]]
      exact x_thrown (x_runS (As := [.int a2, .int 1, .int 99]) (rest := []) ⟨hx, hb, hml, hown, hts⟩ (t_Plan_wantWithin l htr dC dI _ _ a2 1 99 c_2) (cw_Plan_78 hts rfl rfl ⟨Nat.le_of_ble_eq_true rfl, Nat.le_of_ble_eq_true rfl⟩) ⟨PX.blind, PX.at hE hK hN hP⟩ rfl rfl hl.1 rfl (lv_room (Nat.le_of_ble_eq_true rfl)) d_Plan_alarm_11 ⟨Nat.le_of_ble_eq_true rfl, Nat.le_of_ble_eq_true rfl⟩) hex hlocks
  · rw [show k_Plan_alarm x a1 a2 = 2 from by unfold k_Plan_alarm; rw [if_neg c_1]]
    exact x_thrown (x_runS (As := [.int a1, .int 1, .int 9]) (rest := []) ⟨hx, hb, hml, hown, hts⟩ (t_Plan_wantWithin l htr dC dI _ _ a1 1 9 c_1) (cw_Plan_78 hts rfl rfl ⟨Nat.le_of_ble_eq_true rfl, Nat.le_of_ble_eq_true rfl⟩) ⟨PX.blind, PX.at hE hK hN hP⟩ rfl rfl hl.1 rfl (lv_room (Nat.le_of_ble_eq_true rfl)) d_Plan_alarm_4 ⟨Nat.le_of_ble_eq_true rfl, Nat.le_of_ble_eq_true rfl⟩) hex hlocks
def k_Plan_inside (x : ST) (a1 a2 : Int32) : Nat := if a1 < (-1) then 1 else (if a1 ≤ 19 then (if k_Plan_wantWithin a2 0 23 = 0 then 0 else 2) else 1)
def f_Plan_inside (x : ST) (a1 a2 : Int32) : Int32 := if a1 < (-1) then 0 else (if a1 ≤ 19 then (if k_Plan_wantWithin a2 0 23 = 0 then (f_Crowd_sum x a1 a2) else 0) else 0)
set_option maxHeartbeats 400000 in
set_option maxRecDepth 100000 in
theorem c_Plan_inside (l : Launch) (dC : Nat → ClassId) (dI : Nat → Nat → Nat) (cI cZ : ClassId) (ad : Nat → Nat) (x : ST) (hI : CIn x) (a1 a2 : Int32) (hk : k_Plan_inside x a1 a2 = 0) : MX l y_Plan_inside (Cond.code y_Plan_inside b_Plan_inside 3 (some .int) :: BW) { frames := 2, cells := 0, slots := 0, locals := 48 } (PC (dC, dI) [(cI, .int), (cZ, .boolean)] (wC cI cZ ad x) [.ref (ad 0), .int a1, .int a2]) (PQ (some (.int (f_Plan_inside x a1 a2)))) 0 0 (fun _ => False) := by
  refine MX.ofW (cc := b_Plan_inside) (maxL := 3) (ret := (some .int)) (by decide) rfl ?_
  intro p e s m args below meth c s₁ B hml hex hv
  obtain ⟨rfl, hP, hK, hN⟩ := hv
  have hx := B.exec
  have hb := B.bytes
  have hr := B.returns
  have hts := atoms_spec (ws := Cond.code y_Plan_inside b_Plan_inside 3 (some .int) :: BW) B.pre
  have hbw : ∀ w ∈ BW, w.before ([.ref (ad 0), .int a1, .int a2]).toArray s = true := fun w h => hts w (List.mem_cons_of_mem _ h)
  have hown : s.vm.findClass "PlanRows" = some m.cls := findClass_of_methodNamed B.named
  have hlocks := B.notSynchronized
  have hl := lv_entry ([.ref (ad 0), .int a1, .int a2]) (n := 3) (Nat.le_of_ble_eq_true rfl)
  rw [lg_entry_eq]
  generalize (lg_sl ([.ref (ad 0), .int a1, .int a2]) ++ List.replicate (3 - (lg_sl ([.ref (ad 0), .int a1, .int a2])).length) Slot.unset).toArray = ls at hl ⊢
  have hl : lv_has ls 3 [(0, .ref (ad 0)), (1, .int a1), (2, .int a2)] := hl
  refine lv_iload_n hx hb d_Plan_inside_0 rfl (lv_at hl 1 rfl) ?_
  refine lv_iconst (v := (-1)) hx hb d_Plan_inside_1 (by decide) ?_
  refine lv_icmp_lt (tgt := 11) hx hb d_Plan_inside_2 (by decide) (fun c_1 => ?_) (fun c_1 => ?_)
  · exact absurd (show k_Plan_inside x a1 a2 = 1 from by unfold k_Plan_inside; rw [if_pos c_1]) (by rw [hk]; decide)
  · refine lv_iload_n hx hb d_Plan_inside_5 rfl (lv_at hl 1 rfl) ?_
    refine lv_bipush (v := 19) hx hb d_Plan_inside_6 (by decide) ?_
    refine lv_icmp_le (tgt := 21) hx hb d_Plan_inside_8 (by decide) (fun c_2 => ?_) (fun c_2 => ?_)
    · refine lv_iload_n hx hb d_Plan_inside_21 rfl (lv_at hl 2 rfl) ?_
      refine lv_iconst (v := 0) hx hb d_Plan_inside_22 (by decide) ?_
      refine lv_bipush (v := 23) hx hb d_Plan_inside_23 (by decide) ?_
      by_cases c_3 : k_Plan_wantWithin a2 0 23 = 0
      · refine xs (As := [.int a2, .int 0, .int 23]) (rest := []) ⟨hx, hb, hml, hown, hts⟩ (c_Plan_wantWithin l dC dI _ _ a2 0 23 c_3) (cw_Plan_78 hts rfl rfl ⟨Nat.le_of_ble_eq_true rfl, Nat.le_of_ble_eq_true rfl⟩) hK hN hP rfl hl.1 rfl (Nat.le_of_ble_eq_true rfl) d_Plan_inside_25 ⟨Nat.zero_le _, Nat.zero_le _⟩ ?_
        refine lv_aload_n hx hb d_Plan_inside_28 rfl (lv_at hl 0 rfl) ?_
        refine va_get (D := (dC, dI)) (ci := 8) (v := .ref (ad 7)) (C := R_Plan) (T := F_Plan) (N := 10) hx hb hbw in_Plan hown hK hP 0 rfl rfl 6 (by decide) (hbw _ w_198) (fun _ h9 => h9) rfl d_Plan_inside_29 ?_
        refine lv_iload_n hx hb d_Plan_inside_32 rfl (lv_at hl 1 rfl) ?_
        refine lv_iload_n hx hb d_Plan_inside_33 rfl (lv_at hl 2 rfl) ?_
        refine xv (As := [.int a1, .int a2]) (rest := []) (C := "PlanRows$Crowd") ⟨hx, hb, hml, hown, hts⟩ (c_Crowd_sum l dC dI cI cZ ad x hI a1 a2) (cw_Plan_183 hts rfl rfl ⟨Nat.le_of_ble_eq_true rfl, Nat.le_of_ble_eq_true rfl⟩) hK hN hP 7 rfl rfl rfl rfl hl.1 rfl (Nat.le_of_ble_eq_true rfl) d_Plan_inside_34 ⟨Nat.zero_le _, Nat.zero_le _⟩ ?_
        exact W.toX (W.iret (v := f_Crowd_sum x a1 a2) hx hb hr (fun t ht hW => ⟨by rw [show f_Plan_inside x a1 a2 = f_Crowd_sum x a1 a2 from by unfold f_Plan_inside; rw [if_neg c_1, if_pos c_2, if_pos c_3]], ht⟩) (fun q hq => by cases hq) d_Plan_inside_37)
      · exact absurd (show k_Plan_inside x a1 a2 = 2 from by unfold k_Plan_inside; rw [if_neg c_1, if_pos c_2, if_neg c_3]) (by rw [hk]; decide)
    · exact absurd (show k_Plan_inside x a1 a2 = 1 from by unfold k_Plan_inside; rw [if_neg c_1, if_neg c_2]) (by rw [hk]; decide)
set_option maxHeartbeats 400000 in
set_option maxRecDepth 100000 in
theorem t_Plan_inside (l : Launch) (htr : l.stackTraces = false) (dC : Nat → ClassId) (dI : Nat → Nat → Nat) (cI cZ : ClassId) (ad : Nat → Nat) (x : ST) (hI : CIn x) (a1 a2 : Int32) (hk : ¬ k_Plan_inside x a1 a2 = 0) : MX l y_Plan_inside (Cond.code y_Plan_inside b_Plan_inside 3 (some .int) :: BW) { frames := 7, cells := 1, slots := 6, locals := 104 } (PX (dC, dI) [(cI, .int), (cZ, .boolean)] (wC cI cZ ad x) [.ref (ad 0), .int a1, .int a2]) (TQ (xnm (k_Plan_inside x a1 a2))) 1 6 (fun _ => False) := by
  refine MX.ofW (cc := b_Plan_inside) (maxL := 3) (ret := (some .int)) (by decide) rfl ?_
  intro p e s m args below meth c s₁ B hml hex hv
  obtain ⟨hE, rfl, hP, hK, hN⟩ := hv
  have hx := B.exec
  have hb := B.bytes
  have hr := B.returns
  have hts := atoms_spec (ws := Cond.code y_Plan_inside b_Plan_inside 3 (some .int) :: BW) B.pre
  have hbw : ∀ w ∈ BW, w.before ([.ref (ad 0), .int a1, .int a2]).toArray s = true := fun w h => hts w (List.mem_cons_of_mem _ h)
  have hown : s.vm.findClass "PlanRows" = some m.cls := findClass_of_methodNamed B.named
  have hlocks := B.notSynchronized
  have hl := lv_entry ([.ref (ad 0), .int a1, .int a2]) (n := 3) (Nat.le_of_ble_eq_true rfl)
  rw [lg_entry_eq]
  generalize (lg_sl ([.ref (ad 0), .int a1, .int a2]) ++ List.replicate (3 - (lg_sl ([.ref (ad 0), .int a1, .int a2])).length) Slot.unset).toArray = ls at hl ⊢
  have hl : lv_has ls 3 [(0, .ref (ad 0)), (1, .int a1), (2, .int a2)] := hl
  refine lv_iload_n hx hb d_Plan_inside_0 rfl (lv_at hl 1 rfl) ?_
  refine lv_iconst (v := (-1)) hx hb d_Plan_inside_1 (by decide) ?_
  refine lv_icmp_lt (tgt := 11) hx hb d_Plan_inside_2 (by decide) (fun c_1 => ?_) (fun c_1 => ?_)
  · rw [show k_Plan_inside x a1 a2 = 1 from by unfold k_Plan_inside; rw [if_pos c_1]]
    obtain ⟨qs, hZ⟩ := hE.2.2.2 (181, "no such floor") (by decide)
    exact x_throw (own := "PlanRows") (Xn := xnm 1) (tx := "no such floor") (names := xup) (qs := qs) hx hb htr hown (by decide +kernel) (by decide +kernel) (hE.hat hbw ow_1) (hbw _ w_236) (hbw _ w_14) hZ hex hml hl.1 hlocks d_Plan_inside_11 d_Plan_inside_14 d_Plan_inside_15 d_Plan_inside_17 d_Plan_inside_20 (Nat.le_of_ble_eq_true rfl) (Nat.le_of_ble_eq_true rfl) (Nat.le_of_ble_eq_true rfl) (Nat.le_of_ble_eq_true rfl)
  · refine lv_iload_n hx hb d_Plan_inside_5 rfl (lv_at hl 1 rfl) ?_
    refine lv_bipush (v := 19) hx hb d_Plan_inside_6 (by decide) ?_
    refine lv_icmp_le (tgt := 21) hx hb d_Plan_inside_8 (by decide) (fun c_2 => ?_) (fun c_2 => ?_)
    · refine lv_iload_n hx hb d_Plan_inside_21 rfl (lv_at hl 2 rfl) ?_
      refine lv_iconst (v := 0) hx hb d_Plan_inside_22 (by decide) ?_
      refine lv_bipush (v := 23) hx hb d_Plan_inside_23 (by decide) ?_
      by_cases c_3 : k_Plan_wantWithin a2 0 23 = 0
      · refine xs (As := [.int a2, .int 0, .int 23]) (rest := []) ⟨hx, hb, hml, hown, hts⟩ (c_Plan_wantWithin l dC dI _ _ a2 0 23 c_3) (cw_Plan_78 hts rfl rfl ⟨Nat.le_of_ble_eq_true rfl, Nat.le_of_ble_eq_true rfl⟩) hK hN hP rfl hl.1 rfl (Nat.le_of_ble_eq_true rfl) d_Plan_inside_25 ⟨Nat.zero_le _, Nat.zero_le _⟩ ?_
        refine lv_aload_n hx hb d_Plan_inside_28 rfl (lv_at hl 0 rfl) ?_
        refine va_get (D := (dC, dI)) (ci := 8) (v := .ref (ad 7)) (C := R_Plan) (T := F_Plan) (N := 10) hx hb hbw in_Plan hown hK hP 0 rfl rfl 6 (by decide) (hbw _ w_198) (fun _ h9 => h9) rfl d_Plan_inside_29 ?_
        refine lv_iload_n hx hb d_Plan_inside_32 rfl (lv_at hl 1 rfl) ?_
        refine lv_iload_n hx hb d_Plan_inside_33 rfl (lv_at hl 2 rfl) ?_
        refine xv (As := [.int a1, .int a2]) (rest := []) (C := "PlanRows$Crowd") ⟨hx, hb, hml, hown, hts⟩ (c_Crowd_sum l dC dI cI cZ ad x hI a1 a2) (cw_Plan_183 hts rfl rfl ⟨Nat.le_of_ble_eq_true rfl, Nat.le_of_ble_eq_true rfl⟩) hK hN hP 7 rfl rfl rfl rfl hl.1 rfl (Nat.le_of_ble_eq_true rfl) d_Plan_inside_34 ⟨Nat.zero_le _, Nat.zero_le _⟩ ?_
        exact absurd (show k_Plan_inside x a1 a2 = 0 from by unfold k_Plan_inside; rw [if_neg c_1, if_pos c_2, if_pos c_3]) hk
      · rw [show k_Plan_inside x a1 a2 = 2 from by unfold k_Plan_inside; rw [if_neg c_1, if_pos c_2, if_neg c_3]]
        exact x_thrown (x_runS (As := [.int a2, .int 0, .int 23]) (rest := []) ⟨hx, hb, hml, hown, hts⟩ (t_Plan_wantWithin l htr dC dI _ _ a2 0 23 c_3) (cw_Plan_78 hts rfl rfl ⟨Nat.le_of_ble_eq_true rfl, Nat.le_of_ble_eq_true rfl⟩) ⟨PX.blind, PX.at hE hK hN hP⟩ rfl rfl hl.1 rfl (lv_room (Nat.le_of_ble_eq_true rfl)) d_Plan_inside_25 ⟨Nat.le_of_ble_eq_true rfl, Nat.le_of_ble_eq_true rfl⟩) hex hlocks
    · rw [show k_Plan_inside x a1 a2 = 1 from by unfold k_Plan_inside; rw [if_neg c_1, if_neg c_2]]
      obtain ⟨qs, hZ⟩ := hE.2.2.2 (181, "no such floor") (by decide)
      exact x_throw (own := "PlanRows") (Xn := xnm 1) (tx := "no such floor") (names := xup) (qs := qs) hx hb htr hown (by decide +kernel) (by decide +kernel) (hE.hat hbw ow_1) (hbw _ w_236) (hbw _ w_14) hZ hex hml hl.1 hlocks d_Plan_inside_11 d_Plan_inside_14 d_Plan_inside_15 d_Plan_inside_17 d_Plan_inside_20 (Nat.le_of_ble_eq_true rfl) (Nat.le_of_ble_eq_true rfl) (Nat.le_of_ble_eq_true rfl) (Nat.le_of_ble_eq_true rfl)
def k_Plan_ladder (x : ST) (a1 a2 a3 a4 : Int32) : Nat := if k_Plan_wantWindow x a1 = 0 then (if k_Plan_wantPoint a2 a3 a4 = 0 then 0 else 2) else 1
def f_Plan_ladder (x : ST) (a1 a2 a3 a4 : Int32) : Int32 := if k_Plan_wantWindow x a1 = 0 then (if k_Plan_wantPoint a2 a3 a4 = 0 then (f_Win_leastLength x a1 a2 a3 a4) else 0) else 0
set_option maxHeartbeats 400000 in
set_option maxRecDepth 100000 in
theorem c_Plan_ladder (l : Launch) (dC : Nat → ClassId) (dI : Nat → Nat → Nat) (cI cZ : ClassId) (ad : Nat → Nat) (x : ST) (hI : CIn x) (a1 a2 a3 a4 : Int32) (hk : k_Plan_ladder x a1 a2 a3 a4 = 0) : MX l y_Plan_ladder (Cond.code y_Plan_ladder b_Plan_ladder 5 (some .int) :: BW) { frames := 3, cells := 0, slots := 0, locals := 78 } (PC (dC, dI) [(cI, .int), (cZ, .boolean)] (wC cI cZ ad x) [.ref (ad 0), .int a1, .int a2, .int a3, .int a4]) (PQ (some (.int (f_Plan_ladder x a1 a2 a3 a4)))) 0 0 (fun _ => False) := by
  refine MX.ofW (cc := b_Plan_ladder) (maxL := 5) (ret := (some .int)) (by decide) rfl ?_
  intro p e s m args below meth c s₁ B hml hex hv
  obtain ⟨rfl, hP, hK, hN⟩ := hv
  have hx := B.exec
  have hb := B.bytes
  have hr := B.returns
  have hts := atoms_spec (ws := Cond.code y_Plan_ladder b_Plan_ladder 5 (some .int) :: BW) B.pre
  have hbw : ∀ w ∈ BW, w.before ([.ref (ad 0), .int a1, .int a2, .int a3, .int a4]).toArray s = true := fun w h => hts w (List.mem_cons_of_mem _ h)
  have hown : s.vm.findClass "PlanRows" = some m.cls := findClass_of_methodNamed B.named
  have hlocks := B.notSynchronized
  have hl := lv_entry ([.ref (ad 0), .int a1, .int a2, .int a3, .int a4]) (n := 5) (Nat.le_of_ble_eq_true rfl)
  rw [lg_entry_eq]
  generalize (lg_sl ([.ref (ad 0), .int a1, .int a2, .int a3, .int a4]) ++ List.replicate (5 - (lg_sl ([.ref (ad 0), .int a1, .int a2, .int a3, .int a4])).length) Slot.unset).toArray = ls at hl ⊢
  have hl : lv_has ls 5 [(0, .ref (ad 0)), (1, .int a1), (2, .int a2), (3, .int a3), (4, .int a4)] := hl
  refine lv_aload_n hx hb d_Plan_ladder_0 rfl (lv_at hl 0 rfl) ?_
  refine lv_iload_n hx hb d_Plan_ladder_1 rfl (lv_at hl 1 rfl) ?_
  by_cases c_1 : k_Plan_wantWindow x a1 = 0
  · refine xv (As := [.int a1]) (rest := []) (C := "PlanRows") ⟨hx, hb, hml, hown, hts⟩ (c_Plan_wantWindow l dC dI cI cZ ad x hI a1 c_1) (cw_Plan_190 hts rfl rfl ⟨Nat.le_of_ble_eq_true rfl, Nat.le_of_ble_eq_true rfl⟩) hK hN hP 0 rfl rfl rfl rfl hl.1 rfl (Nat.le_of_ble_eq_true rfl) d_Plan_ladder_2 ⟨Nat.zero_le _, Nat.zero_le _⟩ ?_
    refine lv_iload_n hx hb d_Plan_ladder_5 rfl (lv_at hl 2 rfl) ?_
    refine lv_iload_n hx hb d_Plan_ladder_6 rfl (lv_at hl 3 rfl) ?_
    refine lv_iload hx hb d_Plan_ladder_7 (lv_at hl 4 rfl) ?_
    by_cases c_2 : k_Plan_wantPoint a2 a3 a4 = 0
    · refine xs (As := [.int a2, .int a3, .int a4]) (rest := []) ⟨hx, hb, hml, hown, hts⟩ (c_Plan_wantPoint l dC dI _ _ a2 a3 a4 c_2) (cw_Plan_186 hts rfl rfl ⟨Nat.le_of_ble_eq_true rfl, Nat.le_of_ble_eq_true rfl⟩) hK hN hP rfl hl.1 rfl (Nat.le_of_ble_eq_true rfl) d_Plan_ladder_9 ⟨Nat.zero_le _, Nat.zero_le _⟩ ?_
      refine lv_aload_n hx hb d_Plan_ladder_12 rfl (lv_at hl 0 rfl) ?_
      refine va_get (D := (dC, dI)) (ci := 8) (v := .ref (ad 8)) (C := R_Plan) (T := F_Plan) (N := 10) hx hb hbw in_Plan hown hK hP 0 rfl rfl 7 (by decide) (hbw _ w_199) (fun _ h9 => h9) rfl d_Plan_ladder_13 ?_
      refine lv_iload_n hx hb d_Plan_ladder_16 rfl (lv_at hl 1 rfl) ?_
      refine lv_iload_n hx hb d_Plan_ladder_17 rfl (lv_at hl 2 rfl) ?_
      refine lv_iload_n hx hb d_Plan_ladder_18 rfl (lv_at hl 3 rfl) ?_
      refine lv_iload hx hb d_Plan_ladder_19 (lv_at hl 4 rfl) ?_
      refine xv (As := [.int a1, .int a2, .int a3, .int a4]) (rest := []) (C := "PlanRows$Windows") ⟨hx, hb, hml, hown, hts⟩ (c_Win_leastLength l dC dI cI cZ ad x hI a1 a2 a3 a4) (cw_Plan_198 hts rfl rfl ⟨Nat.le_of_ble_eq_true rfl, Nat.le_of_ble_eq_true rfl⟩) hK hN hP 8 rfl rfl rfl rfl hl.1 rfl (Nat.le_of_ble_eq_true rfl) d_Plan_ladder_21 ⟨Nat.zero_le _, Nat.zero_le _⟩ ?_
      exact W.toX (W.iret (v := f_Win_leastLength x a1 a2 a3 a4) hx hb hr (fun t ht hW => ⟨by rw [show f_Plan_ladder x a1 a2 a3 a4 = f_Win_leastLength x a1 a2 a3 a4 from by unfold f_Plan_ladder; rw [if_pos c_1, if_pos c_2]], ht⟩) (fun q hq => by cases hq) d_Plan_ladder_24)
    · exact absurd (show k_Plan_ladder x a1 a2 a3 a4 = 2 from by unfold k_Plan_ladder; rw [if_pos c_1, if_neg c_2]) (by rw [hk]; decide)
  · exact absurd (show k_Plan_ladder x a1 a2 a3 a4 = 1 from by unfold k_Plan_ladder; rw [if_neg c_1]) (by rw [hk]; decide)
set_option maxHeartbeats 400000 in
set_option maxRecDepth 100000 in
theorem t_Plan_ladder (l : Launch) (htr : l.stackTraces = false) (dC : Nat → ClassId) (dI : Nat → Nat → Nat) (cI cZ : ClassId) (ad : Nat → Nat) (x : ST) (hI : CIn x) (a1 a2 a3 a4 : Int32) (hk : ¬ k_Plan_ladder x a1 a2 a3 a4 = 0) : MX l y_Plan_ladder (Cond.code y_Plan_ladder b_Plan_ladder 5 (some .int) :: BW) { frames := 8, cells := 1, slots := 6, locals := 126 } (PX (dC, dI) [(cI, .int), (cZ, .boolean)] (wC cI cZ ad x) [.ref (ad 0), .int a1, .int a2, .int a3, .int a4]) (TQ (xnm (k_Plan_ladder x a1 a2 a3 a4))) 1 6 (fun _ => False) := by
  refine MX.ofW (cc := b_Plan_ladder) (maxL := 5) (ret := (some .int)) (by decide) rfl ?_
  intro p e s m args below meth c s₁ B hml hex hv
  obtain ⟨hE, rfl, hP, hK, hN⟩ := hv
  have hx := B.exec
  have hb := B.bytes
  have hr := B.returns
  have hts := atoms_spec (ws := Cond.code y_Plan_ladder b_Plan_ladder 5 (some .int) :: BW) B.pre
  have hbw : ∀ w ∈ BW, w.before ([.ref (ad 0), .int a1, .int a2, .int a3, .int a4]).toArray s = true := fun w h => hts w (List.mem_cons_of_mem _ h)
  have hown : s.vm.findClass "PlanRows" = some m.cls := findClass_of_methodNamed B.named
  have hlocks := B.notSynchronized
  have hl := lv_entry ([.ref (ad 0), .int a1, .int a2, .int a3, .int a4]) (n := 5) (Nat.le_of_ble_eq_true rfl)
  rw [lg_entry_eq]
  generalize (lg_sl ([.ref (ad 0), .int a1, .int a2, .int a3, .int a4]) ++ List.replicate (5 - (lg_sl ([.ref (ad 0), .int a1, .int a2, .int a3, .int a4])).length) Slot.unset).toArray = ls at hl ⊢
  have hl : lv_has ls 5 [(0, .ref (ad 0)), (1, .int a1), (2, .int a2), (3, .int a3), (4, .int a4)] := hl
  refine lv_aload_n hx hb d_Plan_ladder_0 rfl (lv_at hl 0 rfl) ?_
  refine lv_iload_n hx hb d_Plan_ladder_1 rfl (lv_at hl 1 rfl) ?_
  by_cases c_1 : k_Plan_wantWindow x a1 = 0
  · refine xv (As := [.int a1]) (rest := []) (C := "PlanRows") ⟨hx, hb, hml, hown, hts⟩ (c_Plan_wantWindow l dC dI cI cZ ad x hI a1 c_1) (cw_Plan_190 hts rfl rfl ⟨Nat.le_of_ble_eq_true rfl, Nat.le_of_ble_eq_true rfl⟩) hK hN hP 0 rfl rfl rfl rfl hl.1 rfl (Nat.le_of_ble_eq_true rfl) d_Plan_ladder_2 ⟨Nat.zero_le _, Nat.zero_le _⟩ ?_
    refine lv_iload_n hx hb d_Plan_ladder_5 rfl (lv_at hl 2 rfl) ?_
    refine lv_iload_n hx hb d_Plan_ladder_6 rfl (lv_at hl 3 rfl) ?_
    refine lv_iload hx hb d_Plan_ladder_7 (lv_at hl 4 rfl) ?_
    by_cases c_2 : k_Plan_wantPoint a2 a3 a4 = 0
    · refine xs (As := [.int a2, .int a3, .int a4]) (rest := []) ⟨hx, hb, hml, hown, hts⟩ (c_Plan_wantPoint l dC dI _ _ a2 a3 a4 c_2) (cw_Plan_186 hts rfl rfl ⟨Nat.le_of_ble_eq_true rfl, Nat.le_of_ble_eq_true rfl⟩) hK hN hP rfl hl.1 rfl (Nat.le_of_ble_eq_true rfl) d_Plan_ladder_9 ⟨Nat.zero_le _, Nat.zero_le _⟩ ?_
      refine lv_aload_n hx hb d_Plan_ladder_12 rfl (lv_at hl 0 rfl) ?_
      refine va_get (D := (dC, dI)) (ci := 8) (v := .ref (ad 8)) (C := R_Plan) (T := F_Plan) (N := 10) hx hb hbw in_Plan hown hK hP 0 rfl rfl 7 (by decide) (hbw _ w_199) (fun _ h9 => h9) rfl d_Plan_ladder_13 ?_
      refine lv_iload_n hx hb d_Plan_ladder_16 rfl (lv_at hl 1 rfl) ?_
      refine lv_iload_n hx hb d_Plan_ladder_17 rfl (lv_at hl 2 rfl) ?_
      refine lv_iload_n hx hb d_Plan_ladder_18 rfl (lv_at hl 3 rfl) ?_
      refine lv_iload hx hb d_Plan_ladder_19 (lv_at hl 4 rfl) ?_
      refine xv (As := [.int a1, .int a2, .int a3, .int a4]) (rest := []) (C := "PlanRows$Windows") ⟨hx, hb, hml, hown, hts⟩ (c_Win_leastLength l dC dI cI cZ ad x hI a1 a2 a3 a4) (cw_Plan_198 hts rfl rfl ⟨Nat.le_of_ble_eq_true rfl, Nat.le_of_ble_eq_true rfl⟩) hK hN hP 8 rfl rfl rfl rfl hl.1 rfl (Nat.le_of_ble_eq_true rfl) d_Plan_ladder_21 ⟨Nat.zero_le _, Nat.zero_le _⟩ ?_
      exact absurd (show k_Plan_ladder x a1 a2 a3 a4 = 0 from by unfold k_Plan_ladder; rw [if_pos c_1, if_pos c_2]) hk
    · rw [show k_Plan_ladder x a1 a2 a3 a4 = 2 from by unfold k_Plan_ladder; rw [if_pos c_1, if_neg c_2]]
      exact x_thrown (x_runS (As := [.int a2, .int a3, .int a4]) (rest := []) ⟨hx, hb, hml, hown, hts⟩ (t_Plan_wantPoint l htr dC dI _ _ a2 a3 a4 c_2) (cw_Plan_186 hts rfl rfl ⟨Nat.le_of_ble_eq_true rfl, Nat.le_of_ble_eq_true rfl⟩) ⟨PX.blind, PX.at hE hK hN hP⟩ rfl rfl hl.1 rfl (lv_room (Nat.le_of_ble_eq_true rfl)) d_Plan_ladder_9 ⟨Nat.le_of_ble_eq_true rfl, Nat.le_of_ble_eq_true rfl⟩) hex hlocks
  · rw [show k_Plan_ladder x a1 a2 a3 a4 = 1 from by unfold k_Plan_ladder; rw [if_neg c_1]]
    exact x_thrown (x_runV (C := "PlanRows") (b := (ad 0)) (As := [.int a1]) (rest := []) ⟨hx, hb, hml, hown, hts⟩ (t_Plan_wantWindow l htr dC dI cI cZ ad x hI a1 c_1) (cw_Plan_190 hts rfl rfl ⟨Nat.le_of_ble_eq_true rfl, Nat.le_of_ble_eq_true rfl⟩) ⟨PX.blind, va_recv hK hP (ci := 8) (q0 := 0) rfl rfl, PX.at hE hK hN hP⟩ rfl rfl hl.1 rfl (lv_room (Nat.le_of_ble_eq_true rfl)) d_Plan_ladder_2 ⟨Nat.le_of_ble_eq_true rfl, Nat.le_of_ble_eq_true rfl⟩) hex hlocks
