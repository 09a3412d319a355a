set_option maxHeartbeats 1000000 in
set_option maxRecDepth 100000 in
theorem lc_step {p : Program} {e : Env} {s : State} {m : MethodId} {below : List Frame} {meth : Method} {c : Code} {Q : State → Prop} {l : Launch} {b L : Nat} {xs : Nat → Int32} {dC : Nat → ClassId} {dI : Nat → Nat → Nat} {cI cZ cL : ClassId} {ad am : Nat → Nat} (hF : LF p s m meth c b L xs l dC dI cI cZ cL ad am) {i : Int32} (hi : 0 ≤ i.toInt ∧ i.toInt + 6 ≤ L) {H : Heap} {locs : List Loc} {x : ST} {z : RT} {fo : Nat → Int64} {ls : Array Slot} {cells slots : Nat} (hI : LI s dC dI cI cZ cL ad am H locs x z fo) (hl : lv_has ls 7 [(4, .int i), (0, .ref b), (1, .ref (ad 0)), (2, .ref (am 0)), (3, .ref (ad 29))]) (hc : cells + 1 ≤ 1088 ∧ slots + 6 ≤ 10706) (kk : ∀ (H : Heap) (locs : List Loc) (x : ST) (z : RT) (fo : Nat → Int64) (ls : Array Slot), LI s dC dI cI cZ cL ad am H locs x z fo → lv_has ls 7 [(4, .int i), (0, .ref b), (1, .ref (ad 0)), (2, .ref (am 0)), (3, .ref (ad 29))] → W p l e room_1 s m #[Value.ref b] below meth c H locs (cells + 1) (slots + 6) Q (F0 m 1530 ls [])) : W p l e room_1 s m #[Value.ref b] below meth c H locs cells slots Q (F0 m 488 ls []) := by
  obtain ⟨htr, hx, hb, hret, hml, hown, hts, hX, hbl, hlocks, hLm, hE, hK, hN, hj, hjM, hdis, h30, h21⟩ := hF
  obtain ⟨hPC, hPR, hS, hR⟩ := hI
  have hbw : ∀ w ∈ BW, w.before #[Value.ref b] s = true := fun w h => hts w (List.mem_cons_of_mem _ h)
  have hbA : ¬ s.heap.size ≤ b := Nat.not_le.mpr hbl
  have hK2 : va_K (dC, dI) clsA [(cI, .int), (cZ, .boolean)] s := hK.sub [0, 1] rfl
  have hc2 : cells + 1 + 0 ≤ 1088 ∧ slots + 6 + 0 ≤ 10706 := hc
  refine lv_aload_n hx hb d_Law_law_488 rfl (lv_at hl 2 rfl) ?_
  refine lv_aload_n hx hb d_Law_law_489 rfl (lv_at hl 1 rfl) ?_
  refine lv_iload hx hb d_Law_law_490 (lv_at hl 0 rfl) ?_
  refine lv_iconst (v := 1) hx hb d_Law_law_492 (by decide) ?_
  refine lv_iadd hx hb d_Law_law_493 ?_
  refine va_sld hx hb hX hbl hbA hS (lw_in hi hLm 1 (by decide)) d_Law_law_494 ?_
  refine lv_aload_n hx hb d_Law_law_495 rfl (lv_at hl 4 rfl) ?_
  refine x_upd (x_runSW (n := 3) (y := y_Law_step) (bytes := b_Law_step) (maxL := 4) (ret := some .int) (hs := [(0, 9, 12, 15)]) (As := [.ref (ad 0), .int (xs (i + 1).toNatClampNeg), .ref (ad 29)]) (rest := []) ⟨hx, hb, hml, hown, hts⟩ (h_step l htr dC dI cI cZ cL ad hj x hR.cin fo H.size (xs (i + 1).toNatClampNeg)) (gBW w_526) List.mem_cons_self rfl rfl ⟨Nat.le_of_ble_eq_true rfl, Nat.le_of_ble_eq_true rfl⟩ (hbw _ w_0) (hbw _ w_524) (hbw _ w_525) (by decide +kernel) ⟨PL.blind, fun U hU hW => ⟨hE.to hS hU hW, PCZ.at hK hN hPC U hU hW⟩⟩ rfl rfl hl.1 rfl (lv_room (Nat.le_of_ble_eq_true rfl)) d_Law_law_496 hc) hS (fun q _ h => lw_aC hS rfl (fun _ h => h) h30 q h) (fun q h => lw_aC hS rfl (fun _ h => h) h30 q h) (fun t H1 locs ht hW hB hz1 hk1 hS => ?_)
  obtain ⟨hPC1, -, -⟩ := hB
  rw [ht] at hPC1
  have hPR := lw_keepM hPR hdis hk1
  clear hPC
  have hPC := hPC1
  clear hPC1 hk1
  obtain ⟨r1, r2, r3⟩ := R_step hR (xs (i + 1).toNatClampNeg)
  refine lv_istore (lv' := [(5, .int (hv_step x (xs (i + 1).toNatClampNeg))), (4, .int i), (0, .ref b), (1, .ref (ad 0)), (2, .ref (am 0)), (3, .ref (ad 29))]) hx hb d_Law_law_499 hl (by decide) rfl (fun ls hl => ?_)
  refine lv_aload_n hx hb d_Law_law_501 rfl (lv_at hl 4 rfl) ?_
  refine lv_aload_n hx hb d_Law_law_502 rfl (lv_at hl 2 rfl) ?_
  refine lv_iload hx hb d_Law_law_503 (lv_at hl 1 rfl) ?_
  refine lv_iconst (v := 1) hx hb d_Law_law_505 (by decide) ?_
  refine lv_iadd hx hb d_Law_law_506 ?_
  refine va_sld hx hb hX hbl hbA hS (lw_in hi hLm 1 (by decide)) d_Law_law_507 ?_
  refine x_upd (x_runV (C := "PlanRowsModel") (b := am 0) (As := [.int (xs (i + 1).toNatClampNeg)]) (rest := []) ⟨hx, hb, hml, hown, hts⟩ (u_Mod_step l dC dI cI cZ am hjM z hR.2.1 H1.size (xs (i + 1).toNatClampNeg)) (cw_Law_119 hts rfl rfl ⟨Nat.le_of_ble_eq_true rfl, Nat.le_of_ble_eq_true rfl⟩) ⟨PCZ.blind, va_recv hK2 hPR (ci := 9) (q0 := 0) rfl rfl, PCZ.at hK2 hN hPR⟩ rfl rfl hl.1 rfl (lv_room (Nat.le_of_ble_eq_true rfl)) d_Law_law_508 hc2) hS (fun q _ h => lw_aC hS rfl (fun _ h => h) h21 q h) (fun q h => lw_aC hS rfl (fun _ h => h) h21 q h) (fun t H2 locs ht hW hB hz2 hk2 hS => ?_)
  obtain ⟨hPR1, -, -⟩ := hB
  rw [ht] at hPR1
  have hPC := lw_keepC hPC hdis hk2
  clear hPR
  have hPR := hPR1
  clear hPR1 hk2
  refine lv_istore (lv' := [(6, .int (g_Mod_step z (xs (i + 1).toNatClampNeg)).1), (5, .int (hv_step x (xs (i + 1).toNatClampNeg))), (4, .int i), (0, .ref b), (1, .ref (ad 0)), (2, .ref (am 0)), (3, .ref (ad 29))]) hx hb d_Law_law_511 hl (by decide) rfl (fun ls hl => ?_)
  refine lv_aload_n hx hb d_Law_law_513 rfl (lv_at hl 5 rfl) ?_
  refine x_pure (x_runV (C := "PlanRowsModel") (b := am 0) (As := []) (rest := []) ⟨hx, hb, hml, hown, hts⟩ (c_Mod_thrown l dC dI cI cZ am (g_Mod_step z (xs (i + 1).toNatClampNeg)).2 r3.2.1) (cw_Law_96 hts rfl rfl ⟨Nat.le_of_ble_eq_true rfl, Nat.le_of_ble_eq_true rfl⟩) ⟨PC.blind, va_recv hK2 hPR (ci := 9) (q0 := 0) rfl rfl, PC.at hK2 hN hPR⟩ rfl rfl hl.1 rfl (lv_room (Nat.le_of_ble_eq_true rfl)) d_Law_law_514 hc2) ?_
  refine lv_iload hx hb d_Law_law_517 (lv_at hl 1 rfl) ?_
  refine lv_icmp_eq (tgt := 524) hx hb d_Law_law_519 (by decide) (fun c3 => ?_) (fun c3 => absurd r1 c3)
  refine lv_iload hx hb d_Law_law_524 (lv_at hl 1 rfl) ?_
  refine lv_if_ne (tgt := 541) hx hb d_Law_law_526 (by decide) (fun c0 => ?_) (fun c0 => ?_)
  · refine lv_goto (tgt := 1530) hx hb d_Law_law_541 (by decide) ?_
    exact kk _ _ _ _ _ _ ⟨hPC, hPR, hS, r3⟩ (lv_sub hl [2, 3, 4, 5, 6] rfl)
  · refine lv_aload_n hx hb d_Law_law_529 rfl (lv_at hl 6 rfl) ?_
    refine lv_iconst (v := 0) hx hb d_Law_law_530 (by decide) ?_
    refine va_lald hx hb hK hPC 29 2 rfl rfl in01 d_Law_law_531 ?_
    refine lv_iload hx hb d_Law_law_532 (lv_at hl 0 rfl) ?_
    refine lv_i2l hx hb d_Law_law_534 rfl ?_
    refine W.lcmp hx hb d_Law_law_535 ?_
    refine lv_if_eq (tgt := 541) hx hb d_Law_law_536 (by decide) (fun c2 => ?_) (fun c2 => ?_)
    · refine lv_goto (tgt := 1530) hx hb d_Law_law_541 (by decide) ?_
      exact kk _ _ _ _ _ _ ⟨hPC, hPR, hS, r3⟩ (lv_sub hl [2, 3, 4, 5, 6] rfl)
    · exact absurd (oc_step hR (xs (i + 1).toNatClampNeg) fo c0) c2
set_option maxHeartbeats 1000000 in
set_option maxRecDepth 100000 in
theorem lc_told {p : Program} {e : Env} {s : State} {m : MethodId} {below : List Frame} {meth : Method} {c : Code} {Q : State → Prop} {l : Launch} {b L : Nat} {xs : Nat → Int32} {dC : Nat → ClassId} {dI : Nat → Nat → Nat} {cI cZ cL : ClassId} {ad am : Nat → Nat} (hF : LF p s m meth c b L xs l dC dI cI cZ cL ad am) {i : Int32} (hi : 0 ≤ i.toInt ∧ i.toInt + 6 ≤ L) {H : Heap} {locs : List Loc} {x : ST} {z : RT} {fo : Nat → Int64} {ls : Array Slot} {cells slots : Nat} (hI : LI s dC dI cI cZ cL ad am H locs x z fo) (hl : lv_has ls 7 [(4, .int i), (0, .ref b), (1, .ref (ad 0)), (2, .ref (am 0)), (3, .ref (ad 29))]) (hc : cells + 1 ≤ 1088 ∧ slots + 6 ≤ 10706) (kk : ∀ (H : Heap) (locs : List Loc) (x : ST) (z : RT) (fo : Nat → Int64) (ls : Array Slot), LI s dC dI cI cZ cL ad am H locs x z fo → lv_has ls 7 [(4, .int i), (0, .ref b), (1, .ref (ad 0)), (2, .ref (am 0)), (3, .ref (ad 29))] → W p l e room_1 s m #[Value.ref b] below meth c H locs (cells + 1) (slots + 6) Q (F0 m 1530 ls [])) : W p l e room_1 s m #[Value.ref b] below meth c H locs cells slots Q (F0 m 544 ls []) := by
  obtain ⟨htr, hx, hb, hret, hml, hown, hts, hX, hbl, hlocks, hLm, hE, hK, hN, hj, hjM, hdis, h30, h21⟩ := hF
  obtain ⟨hPC, hPR, hS, hR⟩ := hI
  have hbw : ∀ w ∈ BW, w.before #[Value.ref b] s = true := fun w h => hts w (List.mem_cons_of_mem _ h)
  have hbA : ¬ s.heap.size ≤ b := Nat.not_le.mpr hbl
  have hK2 : va_K (dC, dI) clsA [(cI, .int), (cZ, .boolean)] s := hK.sub [0, 1] rfl
  have hc2 : cells + 1 + 0 ≤ 1088 ∧ slots + 6 + 0 ≤ 10706 := hc
  refine lv_aload_n hx hb d_Law_law_544 rfl (lv_at hl 2 rfl) ?_
  refine lv_aload_n hx hb d_Law_law_545 rfl (lv_at hl 1 rfl) ?_
  refine lv_iload hx hb d_Law_law_546 (lv_at hl 0 rfl) ?_
  refine lv_iconst (v := 1) hx hb d_Law_law_548 (by decide) ?_
  refine lv_iadd hx hb d_Law_law_549 ?_
  refine va_sld hx hb hX hbl hbA hS (lw_in hi hLm 1 (by decide)) d_Law_law_550 ?_
  refine lv_aload_n hx hb d_Law_law_551 rfl (lv_at hl 4 rfl) ?_
  refine x_upd (x_runSW (n := 3) (y := y_Law_told) (bytes := b_Law_told) (maxL := 4) (ret := some .int) (hs := [(0, 9, 12, 13)]) (As := [.ref (ad 0), .int (xs (i + 1).toNatClampNeg), .ref (ad 29)]) (rest := []) ⟨hx, hb, hml, hown, hts⟩ (h_told l htr dC dI cI cZ cL ad hj x hR.cin fo H.size (xs (i + 1).toNatClampNeg)) (gBW w_541) List.mem_cons_self rfl rfl ⟨Nat.le_of_ble_eq_true rfl, Nat.le_of_ble_eq_true rfl⟩ (hbw _ w_0) (hbw _ w_539) (hbw _ w_540) (by decide +kernel) ⟨PL.blind, fun U hU hW => ⟨hE.to hS hU hW, PCZ.at hK hN hPC U hU hW⟩⟩ rfl rfl hl.1 rfl (lv_room (Nat.le_of_ble_eq_true rfl)) d_Law_law_552 hc) hS (fun q _ h => lw_aC hS rfl (fun _ h => h) h30 q h) (fun q h => lw_aC hS rfl (fun _ h => h) h30 q h) (fun t H1 locs ht hW hB hz1 hk1 hS => ?_)
  obtain ⟨hPC1, -, -⟩ := hB
  rw [ht] at hPC1
  have hPR := lw_keepM hPR hdis hk1
  clear hPC
  have hPC := hPC1
  clear hPC1 hk1
  obtain ⟨r1, r2, r3⟩ := R_told hR (xs (i + 1).toNatClampNeg)
  refine lv_istore (lv' := [(5, .int (hv_told x (xs (i + 1).toNatClampNeg))), (4, .int i), (0, .ref b), (1, .ref (ad 0)), (2, .ref (am 0)), (3, .ref (ad 29))]) hx hb d_Law_law_555 hl (by decide) rfl (fun ls hl => ?_)
  refine lv_aload_n hx hb d_Law_law_557 rfl (lv_at hl 4 rfl) ?_
  refine lv_aload_n hx hb d_Law_law_558 rfl (lv_at hl 2 rfl) ?_
  refine lv_iload hx hb d_Law_law_559 (lv_at hl 1 rfl) ?_
  refine lv_iconst (v := 1) hx hb d_Law_law_561 (by decide) ?_
  refine lv_iadd hx hb d_Law_law_562 ?_
  refine va_sld hx hb hX hbl hbA hS (lw_in hi hLm 1 (by decide)) d_Law_law_563 ?_
  refine x_upd (x_runV (C := "PlanRowsModel") (b := am 0) (As := [.int (xs (i + 1).toNatClampNeg)]) (rest := []) ⟨hx, hb, hml, hown, hts⟩ (u_Mod_told l dC dI cI cZ am hjM z hR.2.1 H1.size (xs (i + 1).toNatClampNeg)) (cw_Law_122 hts rfl rfl ⟨Nat.le_of_ble_eq_true rfl, Nat.le_of_ble_eq_true rfl⟩) ⟨PCZ.blind, va_recv hK2 hPR (ci := 9) (q0 := 0) rfl rfl, PCZ.at hK2 hN hPR⟩ rfl rfl hl.1 rfl (lv_room (Nat.le_of_ble_eq_true rfl)) d_Law_law_564 hc2) hS (fun q _ h => lw_aC hS rfl (fun _ h => h) h21 q h) (fun q h => lw_aC hS rfl (fun _ h => h) h21 q h) (fun t H2 locs ht hW hB hz2 hk2 hS => ?_)
  obtain ⟨hPR1, -, -⟩ := hB
  rw [ht] at hPR1
  have hPC := lw_keepC hPC hdis hk2
  clear hPR
  have hPR := hPR1
  clear hPR1 hk2
  refine lv_istore (lv' := [(6, .int (g_Mod_told z (xs (i + 1).toNatClampNeg)).1), (5, .int (hv_told x (xs (i + 1).toNatClampNeg))), (4, .int i), (0, .ref b), (1, .ref (ad 0)), (2, .ref (am 0)), (3, .ref (ad 29))]) hx hb d_Law_law_567 hl (by decide) rfl (fun ls hl => ?_)
  refine lv_aload_n hx hb d_Law_law_569 rfl (lv_at hl 5 rfl) ?_
  refine x_pure (x_runV (C := "PlanRowsModel") (b := am 0) (As := []) (rest := []) ⟨hx, hb, hml, hown, hts⟩ (c_Mod_thrown l dC dI cI cZ am (g_Mod_told z (xs (i + 1).toNatClampNeg)).2 r3.2.1) (cw_Law_96 hts rfl rfl ⟨Nat.le_of_ble_eq_true rfl, Nat.le_of_ble_eq_true rfl⟩) ⟨PC.blind, va_recv hK2 hPR (ci := 9) (q0 := 0) rfl rfl, PC.at hK2 hN hPR⟩ rfl rfl hl.1 rfl (lv_room (Nat.le_of_ble_eq_true rfl)) d_Law_law_570 hc2) ?_
  refine lv_iload hx hb d_Law_law_573 (lv_at hl 1 rfl) ?_
  refine lv_icmp_eq (tgt := 580) hx hb d_Law_law_575 (by decide) (fun c3 => ?_) (fun c3 => absurd r1 c3)
  refine lv_iload hx hb d_Law_law_580 (lv_at hl 1 rfl) ?_
  refine lv_if_ne (tgt := 597) hx hb d_Law_law_582 (by decide) (fun c0 => ?_) (fun c0 => ?_)
  · refine lv_goto (tgt := 1530) hx hb d_Law_law_597 (by decide) ?_
    exact kk _ _ _ _ _ _ ⟨hPC, hPR, hS, r3⟩ (lv_sub hl [2, 3, 4, 5, 6] rfl)
  · refine lv_aload_n hx hb d_Law_law_585 rfl (lv_at hl 6 rfl) ?_
    refine lv_iconst (v := 0) hx hb d_Law_law_586 (by decide) ?_
    refine va_lald hx hb hK hPC 29 2 rfl rfl in01 d_Law_law_587 ?_
    refine lv_iload hx hb d_Law_law_588 (lv_at hl 0 rfl) ?_
    refine lv_i2l hx hb d_Law_law_590 rfl ?_
    refine W.lcmp hx hb d_Law_law_591 ?_
    refine lv_if_eq (tgt := 597) hx hb d_Law_law_592 (by decide) (fun c2 => ?_) (fun c2 => ?_)
    · refine lv_goto (tgt := 1530) hx hb d_Law_law_597 (by decide) ?_
      exact kk _ _ _ _ _ _ ⟨hPC, hPR, hS, r3⟩ (lv_sub hl [2, 3, 4, 5, 6] rfl)
    · exact absurd (oc_told hR (xs (i + 1).toNatClampNeg) fo c0) c2
set_option maxHeartbeats 1000000 in
set_option maxRecDepth 100000 in
theorem lc_hoses {p : Program} {e : Env} {s : State} {m : MethodId} {below : List Frame} {meth : Method} {c : Code} {Q : State → Prop} {l : Launch} {b L : Nat} {xs : Nat → Int32} {dC : Nat → ClassId} {dI : Nat → Nat → Nat} {cI cZ cL : ClassId} {ad am : Nat → Nat} (hF : LF p s m meth c b L xs l dC dI cI cZ cL ad am) {i : Int32} (hi : 0 ≤ i.toInt ∧ i.toInt + 6 ≤ L) {H : Heap} {locs : List Loc} {x : ST} {z : RT} {fo : Nat → Int64} {ls : Array Slot} {cells slots : Nat} (hI : LI s dC dI cI cZ cL ad am H locs x z fo) (hl : lv_has ls 7 [(4, .int i), (0, .ref b), (1, .ref (ad 0)), (2, .ref (am 0)), (3, .ref (ad 29))]) (hc : cells + 1 ≤ 1088 ∧ slots + 6 ≤ 10706) (kk : ∀ (H : Heap) (locs : List Loc) (x : ST) (z : RT) (fo : Nat → Int64) (ls : Array Slot), LI s dC dI cI cZ cL ad am H locs x z fo → lv_has ls 7 [(4, .int i), (0, .ref b), (1, .ref (ad 0)), (2, .ref (am 0)), (3, .ref (ad 29))] → W p l e room_1 s m #[Value.ref b] below meth c H locs (cells + 1) (slots + 6) Q (F0 m 1530 ls [])) : W p l e room_1 s m #[Value.ref b] below meth c H locs cells slots Q (F0 m 600 ls []) := by
  obtain ⟨htr, hx, hb, hret, hml, hown, hts, hX, hbl, hlocks, hLm, hE, hK, hN, hj, hjM, hdis, h30, h21⟩ := hF
  obtain ⟨hPC, hPR, hS, hR⟩ := hI
  have hbw : ∀ w ∈ BW, w.before #[Value.ref b] s = true := fun w h => hts w (List.mem_cons_of_mem _ h)
  have hbA : ¬ s.heap.size ≤ b := Nat.not_le.mpr hbl
  have hK2 : va_K (dC, dI) clsA [(cI, .int), (cZ, .boolean)] s := hK.sub [0, 1] rfl
  have hc2 : cells + 1 + 0 ≤ 1088 ∧ slots + 6 + 0 ≤ 10706 := hc
  refine lv_aload_n hx hb d_Law_law_600 rfl (lv_at hl 2 rfl) ?_
  refine lv_aload_n hx hb d_Law_law_601 rfl (lv_at hl 1 rfl) ?_
  refine lv_iload hx hb d_Law_law_602 (lv_at hl 0 rfl) ?_
  refine lv_iconst (v := 1) hx hb d_Law_law_604 (by decide) ?_
  refine lv_iadd hx hb d_Law_law_605 ?_
  refine va_sld hx hb hX hbl hbA hS (lw_in hi hLm 1 (by decide)) d_Law_law_606 ?_
  refine lv_aload_n hx hb d_Law_law_607 rfl (lv_at hl 1 rfl) ?_
  refine lv_iload hx hb d_Law_law_608 (lv_at hl 0 rfl) ?_
  refine lv_iconst (v := 2) hx hb d_Law_law_610 (by decide) ?_
  refine lv_iadd hx hb d_Law_law_611 ?_
  refine va_sld hx hb hX hbl hbA hS (lw_in hi hLm 2 (by decide)) d_Law_law_612 ?_
  refine lv_aload_n hx hb d_Law_law_613 rfl (lv_at hl 4 rfl) ?_
  refine x_upd (x_runSW (n := 4) (y := y_Law_hoses) (bytes := b_Law_hoses) (maxL := 5) (ret := some .int) (hs := [(0, 10, 13, 13), (0, 10, 17, 15)]) (As := [.ref (ad 0), .int (xs (i + 1).toNatClampNeg), .int (xs (i + 2).toNatClampNeg), .ref (ad 29)]) (rest := []) ⟨hx, hb, hml, hown, hts⟩ (h_hoses l htr dC dI cI cZ cL ad hj x hR.cin fo H.size (xs (i + 1).toNatClampNeg) (xs (i + 2).toNatClampNeg)) (gBW w_549) List.mem_cons_self rfl rfl ⟨Nat.le_of_ble_eq_true rfl, Nat.le_of_ble_eq_true rfl⟩ (hbw _ w_0) (hbw _ w_547) (hbw _ w_548) (by decide +kernel) ⟨PL.blind, fun U hU hW => ⟨hE.to hS hU hW, PCZ.at hK hN hPC U hU hW⟩⟩ rfl rfl hl.1 rfl (lv_room (Nat.le_of_ble_eq_true rfl)) d_Law_law_614 hc) hS (fun q _ h => lw_aC hS rfl (fun _ h => h) h30 q h) (fun q h => lw_aC hS rfl (fun _ h => h) h30 q h) (fun t H1 locs ht hW hB hz1 hk1 hS => ?_)
  obtain ⟨hPC1, -, -⟩ := hB
  rw [ht] at hPC1
  have hPR := lw_keepM hPR hdis hk1
  clear hPC
  have hPC := hPC1
  clear hPC1 hk1
  obtain ⟨r1, r2, r3⟩ := R_hoses hR (xs (i + 1).toNatClampNeg) (xs (i + 2).toNatClampNeg)
  refine lv_istore (lv' := [(5, .int (hv_hoses x (xs (i + 1).toNatClampNeg) (xs (i + 2).toNatClampNeg))), (4, .int i), (0, .ref b), (1, .ref (ad 0)), (2, .ref (am 0)), (3, .ref (ad 29))]) hx hb d_Law_law_617 hl (by decide) rfl (fun ls hl => ?_)
  refine lv_aload_n hx hb d_Law_law_619 rfl (lv_at hl 4 rfl) ?_
  refine lv_aload_n hx hb d_Law_law_620 rfl (lv_at hl 2 rfl) ?_
  refine lv_iload hx hb d_Law_law_621 (lv_at hl 1 rfl) ?_
  refine lv_iconst (v := 1) hx hb d_Law_law_623 (by decide) ?_
  refine lv_iadd hx hb d_Law_law_624 ?_
  refine va_sld hx hb hX hbl hbA hS (lw_in hi hLm 1 (by decide)) d_Law_law_625 ?_
  refine lv_aload_n hx hb d_Law_law_626 rfl (lv_at hl 2 rfl) ?_
  refine lv_iload hx hb d_Law_law_627 (lv_at hl 1 rfl) ?_
  refine lv_iconst (v := 2) hx hb d_Law_law_629 (by decide) ?_
  refine lv_iadd hx hb d_Law_law_630 ?_
  refine va_sld hx hb hX hbl hbA hS (lw_in hi hLm 2 (by decide)) d_Law_law_631 ?_
  refine x_upd (x_runV (C := "PlanRowsModel") (b := am 0) (As := [.int (xs (i + 1).toNatClampNeg), .int (xs (i + 2).toNatClampNeg)]) (rest := []) ⟨hx, hb, hml, hown, hts⟩ (u_Mod_hoses l dC dI cI cZ am hjM z hR.2.1 H1.size (xs (i + 1).toNatClampNeg) (xs (i + 2).toNatClampNeg) hR.2.2.1) (cw_Law_125 hts rfl rfl ⟨Nat.le_of_ble_eq_true rfl, Nat.le_of_ble_eq_true rfl⟩) ⟨PCZ.blind, va_recv hK2 hPR (ci := 9) (q0 := 0) rfl rfl, PCZ.at hK2 hN hPR⟩ rfl rfl hl.1 rfl (lv_room (Nat.le_of_ble_eq_true rfl)) d_Law_law_632 hc2) hS (fun q _ h => lw_aC hS rfl (fun _ h => h) h21 q h) (fun q h => lw_aC hS rfl (fun _ h => h) h21 q h) (fun t H2 locs ht hW hB hz2 hk2 hS => ?_)
  obtain ⟨hPR1, -, -⟩ := hB
  rw [ht] at hPR1
  have hPC := lw_keepC hPC hdis hk2
  clear hPR
  have hPR := hPR1
  clear hPR1 hk2
  refine lv_istore (lv' := [(6, .int (g_Mod_hoses z (xs (i + 1).toNatClampNeg) (xs (i + 2).toNatClampNeg)).1), (5, .int (hv_hoses x (xs (i + 1).toNatClampNeg) (xs (i + 2).toNatClampNeg))), (4, .int i), (0, .ref b), (1, .ref (ad 0)), (2, .ref (am 0)), (3, .ref (ad 29))]) hx hb d_Law_law_635 hl (by decide) rfl (fun ls hl => ?_)
  refine lv_aload_n hx hb d_Law_law_637 rfl (lv_at hl 5 rfl) ?_
  refine x_pure (x_runV (C := "PlanRowsModel") (b := am 0) (As := []) (rest := []) ⟨hx, hb, hml, hown, hts⟩ (c_Mod_thrown l dC dI cI cZ am (g_Mod_hoses z (xs (i + 1).toNatClampNeg) (xs (i + 2).toNatClampNeg)).2 r3.2.1) (cw_Law_96 hts rfl rfl ⟨Nat.le_of_ble_eq_true rfl, Nat.le_of_ble_eq_true rfl⟩) ⟨PC.blind, va_recv hK2 hPR (ci := 9) (q0 := 0) rfl rfl, PC.at hK2 hN hPR⟩ rfl rfl hl.1 rfl (lv_room (Nat.le_of_ble_eq_true rfl)) d_Law_law_638 hc2) ?_
  refine lv_iload hx hb d_Law_law_641 (lv_at hl 1 rfl) ?_
  refine lv_icmp_eq (tgt := 648) hx hb d_Law_law_643 (by decide) (fun c3 => ?_) (fun c3 => absurd r1 c3)
  refine lv_iload hx hb d_Law_law_648 (lv_at hl 1 rfl) ?_
  refine lv_if_ne (tgt := 665) hx hb d_Law_law_650 (by decide) (fun c0 => ?_) (fun c0 => ?_)
  · refine lv_goto (tgt := 1530) hx hb d_Law_law_665 (by decide) ?_
    exact kk _ _ _ _ _ _ ⟨hPC, hPR, hS, r3⟩ (lv_sub hl [2, 3, 4, 5, 6] rfl)
  · refine lv_aload_n hx hb d_Law_law_653 rfl (lv_at hl 6 rfl) ?_
    refine lv_iconst (v := 0) hx hb d_Law_law_654 (by decide) ?_
    refine va_lald hx hb hK hPC 29 2 rfl rfl in01 d_Law_law_655 ?_
    refine lv_iload hx hb d_Law_law_656 (lv_at hl 0 rfl) ?_
    refine lv_i2l hx hb d_Law_law_658 rfl ?_
    refine W.lcmp hx hb d_Law_law_659 ?_
    refine lv_if_eq (tgt := 665) hx hb d_Law_law_660 (by decide) (fun c2 => ?_) (fun c2 => ?_)
    · refine lv_goto (tgt := 1530) hx hb d_Law_law_665 (by decide) ?_
      exact kk _ _ _ _ _ _ ⟨hPC, hPR, hS, r3⟩ (lv_sub hl [2, 3, 4, 5, 6] rfl)
    · exact absurd (oc_hoses hR (xs (i + 1).toNatClampNeg) (xs (i + 2).toNatClampNeg) fo c0) c2
set_option maxHeartbeats 1000000 in
set_option maxRecDepth 100000 in
theorem lc_trapped {p : Program} {e : Env} {s : State} {m : MethodId} {below : List Frame} {meth : Method} {c : Code} {Q : State → Prop} {l : Launch} {b L : Nat} {xs : Nat → Int32} {dC : Nat → ClassId} {dI : Nat → Nat → Nat} {cI cZ cL : ClassId} {ad am : Nat → Nat} (hF : LF p s m meth c b L xs l dC dI cI cZ cL ad am) {i : Int32} (hi : 0 ≤ i.toInt ∧ i.toInt + 6 ≤ L) {H : Heap} {locs : List Loc} {x : ST} {z : RT} {fo : Nat → Int64} {ls : Array Slot} {cells slots : Nat} (hI : LI s dC dI cI cZ cL ad am H locs x z fo) (hl : lv_has ls 7 [(4, .int i), (0, .ref b), (1, .ref (ad 0)), (2, .ref (am 0)), (3, .ref (ad 29))]) (hc : cells + 1 ≤ 1088 ∧ slots + 6 ≤ 10706) (kk : ∀ (H : Heap) (locs : List Loc) (x : ST) (z : RT) (fo : Nat → Int64) (ls : Array Slot), LI s dC dI cI cZ cL ad am H locs x z fo → lv_has ls 7 [(4, .int i), (0, .ref b), (1, .ref (ad 0)), (2, .ref (am 0)), (3, .ref (ad 29))] → W p l e room_1 s m #[Value.ref b] below meth c H locs (cells + 1) (slots + 6) Q (F0 m 1530 ls [])) : W p l e room_1 s m #[Value.ref b] below meth c H locs cells slots Q (F0 m 668 ls []) := by
  obtain ⟨htr, hx, hb, hret, hml, hown, hts, hX, hbl, hlocks, hLm, hE, hK, hN, hj, hjM, hdis, h30, h21⟩ := hF
  obtain ⟨hPC, hPR, hS, hR⟩ := hI
  have hbw : ∀ w ∈ BW, w.before #[Value.ref b] s = true := fun w h => hts w (List.mem_cons_of_mem _ h)
  have hbA : ¬ s.heap.size ≤ b := Nat.not_le.mpr hbl
  have hK2 : va_K (dC, dI) clsA [(cI, .int), (cZ, .boolean)] s := hK.sub [0, 1] rfl
  have hc2 : cells + 1 + 0 ≤ 1088 ∧ slots + 6 + 0 ≤ 10706 := hc
  refine lv_aload_n hx hb d_Law_law_668 rfl (lv_at hl 2 rfl) ?_
  refine lv_aload_n hx hb d_Law_law_669 rfl (lv_at hl 1 rfl) ?_
  refine lv_iload hx hb d_Law_law_670 (lv_at hl 0 rfl) ?_
  refine lv_iconst (v := 1) hx hb d_Law_law_672 (by decide) ?_
  refine lv_iadd hx hb d_Law_law_673 ?_
  refine va_sld hx hb hX hbl hbA hS (lw_in hi hLm 1 (by decide)) d_Law_law_674 ?_
  refine lv_aload_n hx hb d_Law_law_675 rfl (lv_at hl 4 rfl) ?_
  refine x_upd (x_runSW (n := 3) (y := y_Law_trapped) (bytes := b_Law_trapped) (maxL := 4) (ret := some .int) (hs := [(0, 9, 12, 15)]) (As := [.ref (ad 0), .int (xs (i + 1).toNatClampNeg), .ref (ad 29)]) (rest := []) ⟨hx, hb, hml, hown, hts⟩ (h_trapped l htr dC dI cI cZ cL ad hj x hR.cin fo H.size (xs (i + 1).toNatClampNeg)) (gBW w_556) List.mem_cons_self rfl rfl ⟨Nat.le_of_ble_eq_true rfl, Nat.le_of_ble_eq_true rfl⟩ (hbw _ w_0) (hbw _ w_554) (hbw _ w_555) (by decide +kernel) ⟨PL.blind, fun U hU hW => ⟨hE.to hS hU hW, PCZ.at hK hN hPC U hU hW⟩⟩ rfl rfl hl.1 rfl (lv_room (Nat.le_of_ble_eq_true rfl)) d_Law_law_676 hc) hS (fun q _ h => lw_aC hS rfl (fun _ h => h) h30 q h) (fun q h => lw_aC hS rfl (fun _ h => h) h30 q h) (fun t H1 locs ht hW hB hz1 hk1 hS => ?_)
  obtain ⟨hPC1, -, -⟩ := hB
  rw [ht] at hPC1
  have hPR := lw_keepM hPR hdis hk1
  clear hPC
  have hPC := hPC1
  clear hPC1 hk1
  obtain ⟨r1, r2, r3⟩ := R_trapped hR (xs (i + 1).toNatClampNeg)
  refine lv_istore (lv' := [(5, .int (hv_trapped x (xs (i + 1).toNatClampNeg))), (4, .int i), (0, .ref b), (1, .ref (ad 0)), (2, .ref (am 0)), (3, .ref (ad 29))]) hx hb d_Law_law_679 hl (by decide) rfl (fun ls hl => ?_)
  refine lv_aload_n hx hb d_Law_law_681 rfl (lv_at hl 4 rfl) ?_
  refine lv_aload_n hx hb d_Law_law_682 rfl (lv_at hl 2 rfl) ?_
  refine lv_iload hx hb d_Law_law_683 (lv_at hl 1 rfl) ?_
  refine lv_iconst (v := 1) hx hb d_Law_law_685 (by decide) ?_
  refine lv_iadd hx hb d_Law_law_686 ?_
  refine va_sld hx hb hX hbl hbA hS (lw_in hi hLm 1 (by decide)) d_Law_law_687 ?_
  refine x_upd (x_runV (C := "PlanRowsModel") (b := am 0) (As := [.int (xs (i + 1).toNatClampNeg)]) (rest := []) ⟨hx, hb, hml, hown, hts⟩ (u_Mod_trapped l dC dI cI cZ am hjM z hR.2.1 H1.size (xs (i + 1).toNatClampNeg) hR.2.2.1) (cw_Law_128 hts rfl rfl ⟨Nat.le_of_ble_eq_true rfl, Nat.le_of_ble_eq_true rfl⟩) ⟨PCZ.blind, va_recv hK2 hPR (ci := 9) (q0 := 0) rfl rfl, PCZ.at hK2 hN hPR⟩ rfl rfl hl.1 rfl (lv_room (Nat.le_of_ble_eq_true rfl)) d_Law_law_688 hc2) hS (fun q _ h => lw_aC hS rfl (fun _ h => h) h21 q h) (fun q h => lw_aC hS rfl (fun _ h => h) h21 q h) (fun t H2 locs ht hW hB hz2 hk2 hS => ?_)
  obtain ⟨hPR1, -, -⟩ := hB
  rw [ht] at hPR1
  have hPC := lw_keepC hPC hdis hk2
  clear hPR
  have hPR := hPR1
  clear hPR1 hk2
  refine lv_istore (lv' := [(6, .int (g_Mod_trapped z (xs (i + 1).toNatClampNeg)).1), (5, .int (hv_trapped x (xs (i + 1).toNatClampNeg))), (4, .int i), (0, .ref b), (1, .ref (ad 0)), (2, .ref (am 0)), (3, .ref (ad 29))]) hx hb d_Law_law_691 hl (by decide) rfl (fun ls hl => ?_)
  refine lv_aload_n hx hb d_Law_law_693 rfl (lv_at hl 5 rfl) ?_
  refine x_pure (x_runV (C := "PlanRowsModel") (b := am 0) (As := []) (rest := []) ⟨hx, hb, hml, hown, hts⟩ (c_Mod_thrown l dC dI cI cZ am (g_Mod_trapped z (xs (i + 1).toNatClampNeg)).2 r3.2.1) (cw_Law_96 hts rfl rfl ⟨Nat.le_of_ble_eq_true rfl, Nat.le_of_ble_eq_true rfl⟩) ⟨PC.blind, va_recv hK2 hPR (ci := 9) (q0 := 0) rfl rfl, PC.at hK2 hN hPR⟩ rfl rfl hl.1 rfl (lv_room (Nat.le_of_ble_eq_true rfl)) d_Law_law_694 hc2) ?_
  refine lv_iload hx hb d_Law_law_697 (lv_at hl 1 rfl) ?_
  refine lv_icmp_eq (tgt := 704) hx hb d_Law_law_699 (by decide) (fun c3 => ?_) (fun c3 => absurd r1 c3)
  refine lv_iload hx hb d_Law_law_704 (lv_at hl 1 rfl) ?_
  refine lv_if_ne (tgt := 721) hx hb d_Law_law_706 (by decide) (fun c0 => ?_) (fun c0 => ?_)
  · refine lv_goto (tgt := 1530) hx hb d_Law_law_721 (by decide) ?_
    exact kk _ _ _ _ _ _ ⟨hPC, hPR, hS, r3⟩ (lv_sub hl [2, 3, 4, 5, 6] rfl)
  · refine lv_aload_n hx hb d_Law_law_709 rfl (lv_at hl 6 rfl) ?_
    refine lv_iconst (v := 0) hx hb d_Law_law_710 (by decide) ?_
    refine va_lald hx hb hK hPC 29 2 rfl rfl in01 d_Law_law_711 ?_
    refine lv_iload hx hb d_Law_law_712 (lv_at hl 0 rfl) ?_
    refine lv_i2l hx hb d_Law_law_714 rfl ?_
    refine W.lcmp hx hb d_Law_law_715 ?_
    refine lv_if_eq (tgt := 721) hx hb d_Law_law_716 (by decide) (fun c2 => ?_) (fun c2 => ?_)
    · refine lv_goto (tgt := 1530) hx hb d_Law_law_721 (by decide) ?_
      exact kk _ _ _ _ _ _ ⟨hPC, hPR, hS, r3⟩ (lv_sub hl [2, 3, 4, 5, 6] rfl)
    · exact absurd (oc_trapped hR (xs (i + 1).toNatClampNeg) fo c0) c2
set_option maxHeartbeats 1000000 in
set_option maxRecDepth 100000 in
theorem lc_missing {p : Program} {e : Env} {s : State} {m : MethodId} {below : List Frame} {meth : Method} {c : Code} {Q : State → Prop} {l : Launch} {b L : Nat} {xs : Nat → Int32} {dC : Nat → ClassId} {dI : Nat → Nat → Nat} {cI cZ cL : ClassId} {ad am : Nat → Nat} (hF : LF p s m meth c b L xs l dC dI cI cZ cL ad am) {i : Int32} (hi : 0 ≤ i.toInt ∧ i.toInt + 6 ≤ L) {H : Heap} {locs : List Loc} {x : ST} {z : RT} {fo : Nat → Int64} {ls : Array Slot} {cells slots : Nat} (hI : LI s dC dI cI cZ cL ad am H locs x z fo) (hl : lv_has ls 7 [(4, .int i), (0, .ref b), (1, .ref (ad 0)), (2, .ref (am 0)), (3, .ref (ad 29))]) (hc : cells + 1 ≤ 1088 ∧ slots + 6 ≤ 10706) (kk : ∀ (H : Heap) (locs : List Loc) (x : ST) (z : RT) (fo : Nat → Int64) (ls : Array Slot), LI s dC dI cI cZ cL ad am H locs x z fo → lv_has ls 7 [(4, .int i), (0, .ref b), (1, .ref (ad 0)), (2, .ref (am 0)), (3, .ref (ad 29))] → W p l e room_1 s m #[Value.ref b] below meth c H locs (cells + 1) (slots + 6) Q (F0 m 1530 ls [])) : W p l e room_1 s m #[Value.ref b] below meth c H locs cells slots Q (F0 m 724 ls []) := by
  obtain ⟨htr, hx, hb, hret, hml, hown, hts, hX, hbl, hlocks, hLm, hE, hK, hN, hj, hjM, hdis, h30, h21⟩ := hF
  obtain ⟨hPC, hPR, hS, hR⟩ := hI
  have hbw : ∀ w ∈ BW, w.before #[Value.ref b] s = true := fun w h => hts w (List.mem_cons_of_mem _ h)
  have hbA : ¬ s.heap.size ≤ b := Nat.not_le.mpr hbl
  have hK2 : va_K (dC, dI) clsA [(cI, .int), (cZ, .boolean)] s := hK.sub [0, 1] rfl
  have hc2 : cells + 1 + 0 ≤ 1088 ∧ slots + 6 + 0 ≤ 10706 := hc
  refine lv_aload_n hx hb d_Law_law_724 rfl (lv_at hl 2 rfl) ?_
  refine lv_aload_n hx hb d_Law_law_725 rfl (lv_at hl 1 rfl) ?_
  refine lv_iload hx hb d_Law_law_726 (lv_at hl 0 rfl) ?_
  refine lv_iconst (v := 1) hx hb d_Law_law_728 (by decide) ?_
  refine lv_iadd hx hb d_Law_law_729 ?_
  refine va_sld hx hb hX hbl hbA hS (lw_in hi hLm 1 (by decide)) d_Law_law_730 ?_
  refine lv_aload_n hx hb d_Law_law_731 rfl (lv_at hl 4 rfl) ?_
  refine x_upd (x_runSW (n := 3) (y := y_Law_missing) (bytes := b_Law_missing) (maxL := 4) (ret := some .int) (hs := [(0, 9, 12, 15)]) (As := [.ref (ad 0), .int (xs (i + 1).toNatClampNeg), .ref (ad 29)]) (rest := []) ⟨hx, hb, hml, hown, hts⟩ (h_missing l htr dC dI cI cZ cL ad hj x hR.cin fo H.size (xs (i + 1).toNatClampNeg)) (gBW w_571) List.mem_cons_self rfl rfl ⟨Nat.le_of_ble_eq_true rfl, Nat.le_of_ble_eq_true rfl⟩ (hbw _ w_0) (hbw _ w_569) (hbw _ w_570) (by decide +kernel) ⟨PL.blind, fun U hU hW => ⟨hE.to hS hU hW, PCZ.at hK hN hPC U hU hW⟩⟩ rfl rfl hl.1 rfl (lv_room (Nat.le_of_ble_eq_true rfl)) d_Law_law_732 hc) hS (fun q _ h => lw_aC hS rfl (fun _ h => h) h30 q h) (fun q h => lw_aC hS rfl (fun _ h => h) h30 q h) (fun t H1 locs ht hW hB hz1 hk1 hS => ?_)
  obtain ⟨hPC1, -, -⟩ := hB
  rw [ht] at hPC1
  have hPR := lw_keepM hPR hdis hk1
  clear hPC
  have hPC := hPC1
  clear hPC1 hk1
  obtain ⟨r1, r2, r3⟩ := R_missing hR (xs (i + 1).toNatClampNeg)
  refine lv_istore (lv' := [(5, .int (hv_missing x (xs (i + 1).toNatClampNeg))), (4, .int i), (0, .ref b), (1, .ref (ad 0)), (2, .ref (am 0)), (3, .ref (ad 29))]) hx hb d_Law_law_735 hl (by decide) rfl (fun ls hl => ?_)
  refine lv_aload_n hx hb d_Law_law_737 rfl (lv_at hl 4 rfl) ?_
  refine lv_aload_n hx hb d_Law_law_738 rfl (lv_at hl 2 rfl) ?_
  refine lv_iload hx hb d_Law_law_739 (lv_at hl 1 rfl) ?_
  refine lv_iconst (v := 1) hx hb d_Law_law_741 (by decide) ?_
  refine lv_iadd hx hb d_Law_law_742 ?_
  refine va_sld hx hb hX hbl hbA hS (lw_in hi hLm 1 (by decide)) d_Law_law_743 ?_
  refine x_upd (x_runV (C := "PlanRowsModel") (b := am 0) (As := [.int (xs (i + 1).toNatClampNeg)]) (rest := []) ⟨hx, hb, hml, hown, hts⟩ (u_Mod_missing l dC dI cI cZ am hjM z hR.2.1 H1.size (xs (i + 1).toNatClampNeg)) (cw_Law_131 hts rfl rfl ⟨Nat.le_of_ble_eq_true rfl, Nat.le_of_ble_eq_true rfl⟩) ⟨PCZ.blind, va_recv hK2 hPR (ci := 9) (q0 := 0) rfl rfl, PCZ.at hK2 hN hPR⟩ rfl rfl hl.1 rfl (lv_room (Nat.le_of_ble_eq_true rfl)) d_Law_law_744 hc2) hS (fun q _ h => lw_aC hS rfl (fun _ h => h) h21 q h) (fun q h => lw_aC hS rfl (fun _ h => h) h21 q h) (fun t H2 locs ht hW hB hz2 hk2 hS => ?_)
  obtain ⟨hPR1, -, -⟩ := hB
  rw [ht] at hPR1
  have hPC := lw_keepC hPC hdis hk2
  clear hPR
  have hPR := hPR1
  clear hPR1 hk2
  refine lv_istore (lv' := [(6, .int (g_Mod_missing z (xs (i + 1).toNatClampNeg)).1), (5, .int (hv_missing x (xs (i + 1).toNatClampNeg))), (4, .int i), (0, .ref b), (1, .ref (ad 0)), (2, .ref (am 0)), (3, .ref (ad 29))]) hx hb d_Law_law_747 hl (by decide) rfl (fun ls hl => ?_)
  refine lv_aload_n hx hb d_Law_law_749 rfl (lv_at hl 5 rfl) ?_
  refine x_pure (x_runV (C := "PlanRowsModel") (b := am 0) (As := []) (rest := []) ⟨hx, hb, hml, hown, hts⟩ (c_Mod_thrown l dC dI cI cZ am (g_Mod_missing z (xs (i + 1).toNatClampNeg)).2 r3.2.1) (cw_Law_96 hts rfl rfl ⟨Nat.le_of_ble_eq_true rfl, Nat.le_of_ble_eq_true rfl⟩) ⟨PC.blind, va_recv hK2 hPR (ci := 9) (q0 := 0) rfl rfl, PC.at hK2 hN hPR⟩ rfl rfl hl.1 rfl (lv_room (Nat.le_of_ble_eq_true rfl)) d_Law_law_750 hc2) ?_
  refine lv_iload hx hb d_Law_law_753 (lv_at hl 1 rfl) ?_
  refine lv_icmp_eq (tgt := 760) hx hb d_Law_law_755 (by decide) (fun c3 => ?_) (fun c3 => absurd r1 c3)
  refine lv_iload hx hb d_Law_law_760 (lv_at hl 1 rfl) ?_
  refine lv_if_ne (tgt := 777) hx hb d_Law_law_762 (by decide) (fun c0 => ?_) (fun c0 => ?_)
  · refine lv_goto (tgt := 1530) hx hb d_Law_law_777 (by decide) ?_
    exact kk _ _ _ _ _ _ ⟨hPC, hPR, hS, r3⟩ (lv_sub hl [2, 3, 4, 5, 6] rfl)
  · refine lv_aload_n hx hb d_Law_law_765 rfl (lv_at hl 6 rfl) ?_
    refine lv_iconst (v := 0) hx hb d_Law_law_766 (by decide) ?_
    refine va_lald hx hb hK hPC 29 2 rfl rfl in01 d_Law_law_767 ?_
    refine lv_iload hx hb d_Law_law_768 (lv_at hl 0 rfl) ?_
    refine lv_i2l hx hb d_Law_law_770 rfl ?_
    refine W.lcmp hx hb d_Law_law_771 ?_
    refine lv_if_eq (tgt := 777) hx hb d_Law_law_772 (by decide) (fun c2 => ?_) (fun c2 => ?_)
    · refine lv_goto (tgt := 1530) hx hb d_Law_law_777 (by decide) ?_
      exact kk _ _ _ _ _ _ ⟨hPC, hPR, hS, r3⟩ (lv_sub hl [2, 3, 4, 5, 6] rfl)
    · exact absurd (oc_missing hR (xs (i + 1).toNatClampNeg) fo c0) c2
