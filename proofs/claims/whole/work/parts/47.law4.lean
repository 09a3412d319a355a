set_option maxHeartbeats 1000000 in
set_option maxRecDepth 100000 in
theorem lc_detector {p : Program} {e : Env} {s : State} {m : MethodId} {below : List Frame} {meth : Method} {c : Code} {Q : State → Prop} {l : Launch} {b L : Nat} {xs : Nat → Int32} {dC : Nat → ClassId} {dI : Nat → Nat → Nat} {cI cZ cL : ClassId} {ad am : Nat → Nat} (hF : LF p s m meth c b L xs l dC dI cI cZ cL ad am) {i : Int32} (hi : 0 ≤ i.toInt ∧ i.toInt + 6 ≤ L) {H : Heap} {locs : List Loc} {x : ST} {z : RT} {fo : Nat → Int64} {ls : Array Slot} {cells slots : Nat} (hI : LI s dC dI cI cZ cL ad am H locs x z fo) (hl : lv_has ls 7 [(4, .int i), (0, .ref b), (1, .ref (ad 0)), (2, .ref (am 0)), (3, .ref (ad 29))]) (hc : cells + 1 ≤ 1088 ∧ slots + 6 ≤ 10706) (kk : ∀ (H : Heap) (locs : List Loc) (x : ST) (z : RT) (fo : Nat → Int64) (ls : Array Slot), LI s dC dI cI cZ cL ad am H locs x z fo → lv_has ls 7 [(4, .int i), (0, .ref b), (1, .ref (ad 0)), (2, .ref (am 0)), (3, .ref (ad 29))] → W p l e room_1 s m #[Value.ref b] below meth c H locs (cells + 1) (slots + 6) Q (F0 m 1530 ls [])) : W p l e room_1 s m #[Value.ref b] below meth c H locs cells slots Q (F0 m 780 ls []) := by
  obtain ⟨htr, hx, hb, hret, hml, hown, hts, hX, hbl, hlocks, hLm, hE, hK, hN, hj, hjM, hdis, h30, h21⟩ := hF
  obtain ⟨hPC, hPR, hS, hR⟩ := hI
  have hbw : ∀ w ∈ BW, w.before #[Value.ref b] s = true := fun w h => hts w (List.mem_cons_of_mem _ h)
  have hbA : ¬ s.heap.size ≤ b := Nat.not_le.mpr hbl
  have hK2 : va_K (dC, dI) clsA [(cI, .int), (cZ, .boolean)] s := hK.sub [0, 1] rfl
  have hc2 : cells + 1 + 0 ≤ 1088 ∧ slots + 6 + 0 ≤ 10706 := hc
  refine lv_aload_n hx hb d_Law_law_780 rfl (lv_at hl 2 rfl) ?_
  refine lv_aload_n hx hb d_Law_law_781 rfl (lv_at hl 1 rfl) ?_
  refine lv_iload hx hb d_Law_law_782 (lv_at hl 0 rfl) ?_
  refine lv_iconst (v := 1) hx hb d_Law_law_784 (by decide) ?_
  refine lv_iadd hx hb d_Law_law_785 ?_
  refine va_sld hx hb hX hbl hbA hS (lw_in hi hLm 1 (by decide)) d_Law_law_786 ?_
  refine lv_aload_n hx hb d_Law_law_787 rfl (lv_at hl 1 rfl) ?_
  refine lv_iload hx hb d_Law_law_788 (lv_at hl 0 rfl) ?_
  refine lv_iconst (v := 2) hx hb d_Law_law_790 (by decide) ?_
  refine lv_iadd hx hb d_Law_law_791 ?_
  refine va_sld hx hb hX hbl hbA hS (lw_in hi hLm 2 (by decide)) d_Law_law_792 ?_
  refine lv_aload_n hx hb d_Law_law_793 rfl (lv_at hl 1 rfl) ?_
  refine lv_iload hx hb d_Law_law_794 (lv_at hl 0 rfl) ?_
  refine lv_iconst (v := 3) hx hb d_Law_law_796 (by decide) ?_
  refine lv_iadd hx hb d_Law_law_797 ?_
  refine va_sld hx hb hX hbl hbA hS (lw_in hi hLm 3 (by decide)) d_Law_law_798 ?_
  refine x_upd (x_runSW (n := 4) (y := y_Law_detector) (bytes := b_Law_detector) (maxL := 5) (ret := some .int) (hs := [(0, 7, 10, 13), (0, 7, 14, 15), (0, 7, 18, 23), (0, 7, 22, 17)]) (As := [.ref (ad 0), .int (xs (i + 1).toNatClampNeg), .int (xs (i + 2).toNatClampNeg), .int (xs (i + 3).toNatClampNeg)]) (rest := []) ⟨hx, hb, hml, hown, hts⟩ (h_detector l htr dC dI cI cZ cL ad hj x hR.cin fo H.size (xs (i + 1).toNatClampNeg) (xs (i + 2).toNatClampNeg) (xs (i + 3).toNatClampNeg)) (gBW w_582) List.mem_cons_self rfl rfl ⟨Nat.le_of_ble_eq_true rfl, Nat.le_of_ble_eq_true rfl⟩ (hbw _ w_0) (hbw _ w_580) (hbw _ w_581) (by decide +kernel) ⟨PL.blind, fun U hU hW => ⟨hE.to hS hU hW, PCZ.at hK hN hPC U hU hW⟩⟩ rfl rfl hl.1 rfl (lv_room (Nat.le_of_ble_eq_true rfl)) d_Law_law_799 hc) hS (fun q _ h => lw_aC hS rfl (fun _ h => h) h30 q h) (fun q h => lw_aC hS rfl (fun _ h => h) h30 q h) (fun t H1 locs ht hW hB hz1 hk1 hS => ?_)
  obtain ⟨hPC1, -, -⟩ := hB
  rw [ht] at hPC1
  have hPR := lw_keepM hPR hdis hk1
  clear hPC
  have hPC := hPC1
  clear hPC1 hk1
  obtain ⟨r1, r2, r3⟩ := R_detector hR (xs (i + 1).toNatClampNeg) (xs (i + 2).toNatClampNeg) (xs (i + 3).toNatClampNeg)
  refine lv_istore (lv' := [(5, .int (hv_detector x (xs (i + 1).toNatClampNeg) (xs (i + 2).toNatClampNeg) (xs (i + 3).toNatClampNeg))), (4, .int i), (0, .ref b), (1, .ref (ad 0)), (2, .ref (am 0)), (3, .ref (ad 29))]) hx hb d_Law_law_802 hl (by decide) rfl (fun ls hl => ?_)
  refine lv_aload_n hx hb d_Law_law_804 rfl (lv_at hl 4 rfl) ?_
  refine lv_aload_n hx hb d_Law_law_805 rfl (lv_at hl 2 rfl) ?_
  refine lv_iload hx hb d_Law_law_806 (lv_at hl 1 rfl) ?_
  refine lv_iconst (v := 1) hx hb d_Law_law_808 (by decide) ?_
  refine lv_iadd hx hb d_Law_law_809 ?_
  refine va_sld hx hb hX hbl hbA hS (lw_in hi hLm 1 (by decide)) d_Law_law_810 ?_
  refine lv_aload_n hx hb d_Law_law_811 rfl (lv_at hl 2 rfl) ?_
  refine lv_iload hx hb d_Law_law_812 (lv_at hl 1 rfl) ?_
  refine lv_iconst (v := 2) hx hb d_Law_law_814 (by decide) ?_
  refine lv_iadd hx hb d_Law_law_815 ?_
  refine va_sld hx hb hX hbl hbA hS (lw_in hi hLm 2 (by decide)) d_Law_law_816 ?_
  refine lv_aload_n hx hb d_Law_law_817 rfl (lv_at hl 2 rfl) ?_
  refine lv_iload hx hb d_Law_law_818 (lv_at hl 1 rfl) ?_
  refine lv_iconst (v := 3) hx hb d_Law_law_820 (by decide) ?_
  refine lv_iadd hx hb d_Law_law_821 ?_
  refine va_sld hx hb hX hbl hbA hS (lw_in hi hLm 3 (by decide)) d_Law_law_822 ?_
  refine x_upd (x_runV (C := "PlanRowsModel") (b := am 0) (As := [.int (xs (i + 1).toNatClampNeg), .int (xs (i + 2).toNatClampNeg), .int (xs (i + 3).toNatClampNeg)]) (rest := []) ⟨hx, hb, hml, hown, hts⟩ (u_Mod_detector l dC dI cI cZ am hjM z hR.2.1 H1.size (xs (i + 1).toNatClampNeg) (xs (i + 2).toNatClampNeg) (xs (i + 3).toNatClampNeg)) (cw_Law_135 hts rfl rfl ⟨Nat.le_of_ble_eq_true rfl, Nat.le_of_ble_eq_true rfl⟩) ⟨PCZ.blind, va_recv hK2 hPR (ci := 9) (q0 := 0) rfl rfl, PCZ.at hK2 hN hPR⟩ rfl rfl hl.1 rfl (lv_room (Nat.le_of_ble_eq_true rfl)) d_Law_law_823 hc2) hS (fun q _ h => lw_aC hS rfl (fun _ h => h) h21 q h) (fun q h => lw_aC hS rfl (fun _ h => h) h21 q h) (fun t H2 locs ht hW hB hz2 hk2 hS => ?_)
  obtain ⟨hPR1, -, -⟩ := hB
  rw [ht] at hPR1
  have hPC := lw_keepC hPC hdis hk2
  clear hPR
  have hPR := hPR1
  clear hPR1 hk2
  refine lv_aload_n hx hb d_Law_law_826 rfl (lv_at hl 4 rfl) ?_
  refine x_pure (x_runV (C := "PlanRowsModel") (b := am 0) (As := []) (rest := []) ⟨hx, hb, hml, hown, hts⟩ (c_Mod_thrown l dC dI cI cZ am (g_Mod_detector z (xs (i + 1).toNatClampNeg) (xs (i + 2).toNatClampNeg) (xs (i + 3).toNatClampNeg)).2 r3.2.1) (cw_Law_96 hts rfl rfl ⟨Nat.le_of_ble_eq_true rfl, Nat.le_of_ble_eq_true rfl⟩) ⟨PC.blind, va_recv hK2 hPR (ci := 9) (q0 := 0) rfl rfl, PC.at hK2 hN hPR⟩ rfl rfl hl.1 rfl (lv_room (Nat.le_of_ble_eq_true rfl)) d_Law_law_827 hc2) ?_
  refine lv_iload hx hb d_Law_law_830 (lv_at hl 0 rfl) ?_
  refine lv_icmp_eq (tgt := 837) hx hb d_Law_law_832 (by decide) (fun c3 => ?_) (fun c3 => absurd r1 c3)
  refine lv_goto (tgt := 1530) hx hb d_Law_law_837 (by decide) ?_
  exact kk _ _ _ _ _ _ ⟨hPC, hPR, hS, r3⟩ (lv_sub hl [1, 2, 3, 4, 5] rfl)
set_option maxHeartbeats 1000000 in
set_option maxRecDepth 100000 in
theorem lc_alarm {p : Program} {e : Env} {s : State} {m : MethodId} {below : List Frame} {meth : Method} {c : Code} {Q : State → Prop} {l : Launch} {b L : Nat} {xs : Nat → Int32} {dC : Nat → ClassId} {dI : Nat → Nat → Nat} {cI cZ cL : ClassId} {ad am : Nat → Nat} (hF : LF p s m meth c b L xs l dC dI cI cZ cL ad am) {i : Int32} (hi : 0 ≤ i.toInt ∧ i.toInt + 6 ≤ L) {H : Heap} {locs : List Loc} {x : ST} {z : RT} {fo : Nat → Int64} {ls : Array Slot} {cells slots : Nat} (hI : LI s dC dI cI cZ cL ad am H locs x z fo) (hl : lv_has ls 7 [(4, .int i), (0, .ref b), (1, .ref (ad 0)), (2, .ref (am 0)), (3, .ref (ad 29))]) (hc : cells + 1 ≤ 1088 ∧ slots + 6 ≤ 10706) (kk : ∀ (H : Heap) (locs : List Loc) (x : ST) (z : RT) (fo : Nat → Int64) (ls : Array Slot), LI s dC dI cI cZ cL ad am H locs x z fo → lv_has ls 7 [(4, .int i), (0, .ref b), (1, .ref (ad 0)), (2, .ref (am 0)), (3, .ref (ad 29))] → W p l e room_1 s m #[Value.ref b] below meth c H locs (cells + 1) (slots + 6) Q (F0 m 1530 ls [])) : W p l e room_1 s m #[Value.ref b] below meth c H locs cells slots Q (F0 m 840 ls []) := by
  obtain ⟨htr, hx, hb, hret, hml, hown, hts, hX, hbl, hlocks, hLm, hE, hK, hN, hj, hjM, hdis, h30, h21⟩ := hF
  obtain ⟨hPC, hPR, hS, hR⟩ := hI
  have hbw : ∀ w ∈ BW, w.before #[Value.ref b] s = true := fun w h => hts w (List.mem_cons_of_mem _ h)
  have hbA : ¬ s.heap.size ≤ b := Nat.not_le.mpr hbl
  have hK2 : va_K (dC, dI) clsA [(cI, .int), (cZ, .boolean)] s := hK.sub [0, 1] rfl
  have hc2 : cells + 1 + 0 ≤ 1088 ∧ slots + 6 + 0 ≤ 10706 := hc
  refine lv_aload_n hx hb d_Law_law_840 rfl (lv_at hl 2 rfl) ?_
  refine lv_aload_n hx hb d_Law_law_841 rfl (lv_at hl 1 rfl) ?_
  refine lv_iload hx hb d_Law_law_842 (lv_at hl 0 rfl) ?_
  refine lv_iconst (v := 1) hx hb d_Law_law_844 (by decide) ?_
  refine lv_iadd hx hb d_Law_law_845 ?_
  refine va_sld hx hb hX hbl hbA hS (lw_in hi hLm 1 (by decide)) d_Law_law_846 ?_
  refine lv_aload_n hx hb d_Law_law_847 rfl (lv_at hl 1 rfl) ?_
  refine lv_iload hx hb d_Law_law_848 (lv_at hl 0 rfl) ?_
  refine lv_iconst (v := 2) hx hb d_Law_law_850 (by decide) ?_
  refine lv_iadd hx hb d_Law_law_851 ?_
  refine va_sld hx hb hX hbl hbA hS (lw_in hi hLm 2 (by decide)) d_Law_law_852 ?_
  refine lv_aload_n hx hb d_Law_law_853 rfl (lv_at hl 4 rfl) ?_
  refine x_upd (x_runSW (n := 4) (y := y_Law_alarm) (bytes := b_Law_alarm) (maxL := 5) (ret := some .int) (hs := [(0, 10, 13, 15)]) (As := [.ref (ad 0), .int (xs (i + 1).toNatClampNeg), .int (xs (i + 2).toNatClampNeg), .ref (ad 29)]) (rest := []) ⟨hx, hb, hml, hown, hts⟩ (h_alarm l htr dC dI cI cZ cL ad hj x hR.cin fo H.size (xs (i + 1).toNatClampNeg) (xs (i + 2).toNatClampNeg)) (gBW w_598) List.mem_cons_self rfl rfl ⟨Nat.le_of_ble_eq_true rfl, Nat.le_of_ble_eq_true rfl⟩ (hbw _ w_0) (hbw _ w_596) (hbw _ w_597) (by decide +kernel) ⟨PL.blind, fun U hU hW => ⟨hE.to hS hU hW, PCZ.at hK hN hPC U hU hW⟩⟩ rfl rfl hl.1 rfl (lv_room (Nat.le_of_ble_eq_true rfl)) d_Law_law_854 hc) hS (fun q _ h => lw_aC hS rfl (fun _ h => h) h30 q h) (fun q h => lw_aC hS rfl (fun _ h => h) h30 q h) (fun t H1 locs ht hW hB hz1 hk1 hS => ?_)
  obtain ⟨hPC1, -, -⟩ := hB
  rw [ht] at hPC1
  have hPR := lw_keepM hPR hdis hk1
  clear hPC
  have hPC := hPC1
  clear hPC1 hk1
  obtain ⟨r1, r2, r3⟩ := R_alarm hR (xs (i + 1).toNatClampNeg) (xs (i + 2).toNatClampNeg)
  refine lv_istore (lv' := [(5, .int (hv_alarm x (xs (i + 1).toNatClampNeg) (xs (i + 2).toNatClampNeg))), (4, .int i), (0, .ref b), (1, .ref (ad 0)), (2, .ref (am 0)), (3, .ref (ad 29))]) hx hb d_Law_law_857 hl (by decide) rfl (fun ls hl => ?_)
  refine lv_aload_n hx hb d_Law_law_859 rfl (lv_at hl 4 rfl) ?_
  refine lv_aload_n hx hb d_Law_law_860 rfl (lv_at hl 2 rfl) ?_
  refine lv_iload hx hb d_Law_law_861 (lv_at hl 1 rfl) ?_
  refine lv_iconst (v := 1) hx hb d_Law_law_863 (by decide) ?_
  refine lv_iadd hx hb d_Law_law_864 ?_
  refine va_sld hx hb hX hbl hbA hS (lw_in hi hLm 1 (by decide)) d_Law_law_865 ?_
  refine lv_aload_n hx hb d_Law_law_866 rfl (lv_at hl 2 rfl) ?_
  refine lv_iload hx hb d_Law_law_867 (lv_at hl 1 rfl) ?_
  refine lv_iconst (v := 2) hx hb d_Law_law_869 (by decide) ?_
  refine lv_iadd hx hb d_Law_law_870 ?_
  refine va_sld hx hb hX hbl hbA hS (lw_in hi hLm 2 (by decide)) d_Law_law_871 ?_
  refine x_upd (x_runV (C := "PlanRowsModel") (b := am 0) (As := [.int (xs (i + 1).toNatClampNeg), .int (xs (i + 2).toNatClampNeg)]) (rest := []) ⟨hx, hb, hml, hown, hts⟩ (u_Mod_alarm l dC dI cI cZ am hjM z hR.2.1 H1.size (xs (i + 1).toNatClampNeg) (xs (i + 2).toNatClampNeg)) (cw_Law_138 hts rfl rfl ⟨Nat.le_of_ble_eq_true rfl, Nat.le_of_ble_eq_true rfl⟩) ⟨PCZ.blind, va_recv hK2 hPR (ci := 9) (q0 := 0) rfl rfl, PCZ.at hK2 hN hPR⟩ rfl rfl hl.1 rfl (lv_room (Nat.le_of_ble_eq_true rfl)) d_Law_law_872 hc2) hS (fun q _ h => lw_aC hS rfl (fun _ h => h) h21 q h) (fun q h => lw_aC hS rfl (fun _ h => h) h21 q h) (fun t H2 locs ht hW hB hz2 hk2 hS => ?_)
  obtain ⟨hPR1, -, -⟩ := hB
  rw [ht] at hPR1
  have hPC := lw_keepC hPC hdis hk2
  clear hPR
  have hPR := hPR1
  clear hPR1 hk2
  refine lv_istore (lv' := [(6, .int (g_Mod_alarm z (xs (i + 1).toNatClampNeg) (xs (i + 2).toNatClampNeg)).1), (5, .int (hv_alarm x (xs (i + 1).toNatClampNeg) (xs (i + 2).toNatClampNeg))), (4, .int i), (0, .ref b), (1, .ref (ad 0)), (2, .ref (am 0)), (3, .ref (ad 29))]) hx hb d_Law_law_875 hl (by decide) rfl (fun ls hl => ?_)
  refine lv_aload_n hx hb d_Law_law_877 rfl (lv_at hl 5 rfl) ?_
  refine x_pure (x_runV (C := "PlanRowsModel") (b := am 0) (As := []) (rest := []) ⟨hx, hb, hml, hown, hts⟩ (c_Mod_thrown l dC dI cI cZ am (g_Mod_alarm z (xs (i + 1).toNatClampNeg) (xs (i + 2).toNatClampNeg)).2 r3.2.1) (cw_Law_96 hts rfl rfl ⟨Nat.le_of_ble_eq_true rfl, Nat.le_of_ble_eq_true rfl⟩) ⟨PC.blind, va_recv hK2 hPR (ci := 9) (q0 := 0) rfl rfl, PC.at hK2 hN hPR⟩ rfl rfl hl.1 rfl (lv_room (Nat.le_of_ble_eq_true rfl)) d_Law_law_878 hc2) ?_
  refine lv_iload hx hb d_Law_law_881 (lv_at hl 1 rfl) ?_
  refine lv_icmp_eq (tgt := 888) hx hb d_Law_law_883 (by decide) (fun c3 => ?_) (fun c3 => absurd r1 c3)
  refine lv_iload hx hb d_Law_law_888 (lv_at hl 1 rfl) ?_
  refine lv_if_ne (tgt := 905) hx hb d_Law_law_890 (by decide) (fun c0 => ?_) (fun c0 => ?_)
  · refine lv_goto (tgt := 1530) hx hb d_Law_law_905 (by decide) ?_
    exact kk _ _ _ _ _ _ ⟨hPC, hPR, hS, r3⟩ (lv_sub hl [2, 3, 4, 5, 6] rfl)
  · refine lv_aload_n hx hb d_Law_law_893 rfl (lv_at hl 6 rfl) ?_
    refine lv_iconst (v := 0) hx hb d_Law_law_894 (by decide) ?_
    refine va_lald hx hb hK hPC 29 2 rfl rfl in01 d_Law_law_895 ?_
    refine lv_iload hx hb d_Law_law_896 (lv_at hl 0 rfl) ?_
    refine lv_i2l hx hb d_Law_law_898 rfl ?_
    refine W.lcmp hx hb d_Law_law_899 ?_
    refine lv_if_eq (tgt := 905) hx hb d_Law_law_900 (by decide) (fun c2 => ?_) (fun c2 => ?_)
    · refine lv_goto (tgt := 1530) hx hb d_Law_law_905 (by decide) ?_
      exact kk _ _ _ _ _ _ ⟨hPC, hPR, hS, r3⟩ (lv_sub hl [2, 3, 4, 5, 6] rfl)
    · exact absurd (oc_alarm hR (xs (i + 1).toNatClampNeg) (xs (i + 2).toNatClampNeg) fo c0) c2
set_option maxHeartbeats 1000000 in
set_option maxRecDepth 100000 in
theorem lc_people {p : Program} {e : Env} {s : State} {m : MethodId} {below : List Frame} {meth : Method} {c : Code} {Q : State → Prop} {l : Launch} {b L : Nat} {xs : Nat → Int32} {dC : Nat → ClassId} {dI : Nat → Nat → Nat} {cI cZ cL : ClassId} {ad am : Nat → Nat} (hF : LF p s m meth c b L xs l dC dI cI cZ cL ad am) {i : Int32} (hi : 0 ≤ i.toInt ∧ i.toInt + 6 ≤ L) {H : Heap} {locs : List Loc} {x : ST} {z : RT} {fo : Nat → Int64} {ls : Array Slot} {cells slots : Nat} (hI : LI s dC dI cI cZ cL ad am H locs x z fo) (hl : lv_has ls 7 [(4, .int i), (0, .ref b), (1, .ref (ad 0)), (2, .ref (am 0)), (3, .ref (ad 29))]) (hc : cells + 1 ≤ 1088 ∧ slots + 6 ≤ 10706) (kk : ∀ (H : Heap) (locs : List Loc) (x : ST) (z : RT) (fo : Nat → Int64) (ls : Array Slot), LI s dC dI cI cZ cL ad am H locs x z fo → lv_has ls 7 [(4, .int i), (0, .ref b), (1, .ref (ad 0)), (2, .ref (am 0)), (3, .ref (ad 29))] → W p l e room_1 s m #[Value.ref b] below meth c H locs (cells + 1) (slots + 6) Q (F0 m 1530 ls [])) : W p l e room_1 s m #[Value.ref b] below meth c H locs cells slots Q (F0 m 908 ls []) := by
  obtain ⟨htr, hx, hb, hret, hml, hown, hts, hX, hbl, hlocks, hLm, hE, hK, hN, hj, hjM, hdis, h30, h21⟩ := hF
  obtain ⟨hPC, hPR, hS, hR⟩ := hI
  have hbw : ∀ w ∈ BW, w.before #[Value.ref b] s = true := fun w h => hts w (List.mem_cons_of_mem _ h)
  have hbA : ¬ s.heap.size ≤ b := Nat.not_le.mpr hbl
  have hK2 : va_K (dC, dI) clsA [(cI, .int), (cZ, .boolean)] s := hK.sub [0, 1] rfl
  have hc2 : cells + 1 + 0 ≤ 1088 ∧ slots + 6 + 0 ≤ 10706 := hc
  refine lv_aload_n hx hb d_Law_law_908 rfl (lv_at hl 2 rfl) ?_
  refine lv_aload_n hx hb d_Law_law_909 rfl (lv_at hl 1 rfl) ?_
  refine lv_iload hx hb d_Law_law_910 (lv_at hl 0 rfl) ?_
  refine lv_iconst (v := 1) hx hb d_Law_law_912 (by decide) ?_
  refine lv_iadd hx hb d_Law_law_913 ?_
  refine va_sld hx hb hX hbl hbA hS (lw_in hi hLm 1 (by decide)) d_Law_law_914 ?_
  refine lv_aload_n hx hb d_Law_law_915 rfl (lv_at hl 1 rfl) ?_
  refine lv_iload hx hb d_Law_law_916 (lv_at hl 0 rfl) ?_
  refine lv_iconst (v := 2) hx hb d_Law_law_918 (by decide) ?_
  refine lv_iadd hx hb d_Law_law_919 ?_
  refine va_sld hx hb hX hbl hbA hS (lw_in hi hLm 2 (by decide)) d_Law_law_920 ?_
  refine lv_aload_n hx hb d_Law_law_921 rfl (lv_at hl 1 rfl) ?_
  refine lv_iload hx hb d_Law_law_922 (lv_at hl 0 rfl) ?_
  refine lv_iconst (v := 3) hx hb d_Law_law_924 (by decide) ?_
  refine lv_iadd hx hb d_Law_law_925 ?_
  refine va_sld hx hb hX hbl hbA hS (lw_in hi hLm 3 (by decide)) d_Law_law_926 ?_
  refine lv_aload_n hx hb d_Law_law_927 rfl (lv_at hl 1 rfl) ?_
  refine lv_iload hx hb d_Law_law_928 (lv_at hl 0 rfl) ?_
  refine lv_iconst (v := 4) hx hb d_Law_law_930 (by decide) ?_
  refine lv_iadd hx hb d_Law_law_931 ?_
  refine va_sld hx hb hX hbl hbA hS (lw_in hi hLm 4 (by decide)) d_Law_law_932 ?_
  refine lv_aload_n hx hb d_Law_law_933 rfl (lv_at hl 4 rfl) ?_
  refine x_upd (x_runSW (n := 6) (y := y_Law_people) (bytes := b_Law_people) (maxL := 7) (ret := some .int) (hs := [(0, 14, 17, 13), (0, 14, 21, 15), (0, 14, 25, 17)]) (As := [.ref (ad 0), .int (xs (i + 1).toNatClampNeg), .int (xs (i + 2).toNatClampNeg), .int (xs (i + 3).toNatClampNeg), .int (xs (i + 4).toNatClampNeg), .ref (ad 29)]) (rest := []) ⟨hx, hb, hml, hown, hts⟩ (h_people l htr dC dI cI cZ cL ad hj x hR.cin fo H.size (xs (i + 1).toNatClampNeg) (xs (i + 2).toNatClampNeg) (xs (i + 3).toNatClampNeg) (xs (i + 4).toNatClampNeg)) (gBW w_605) List.mem_cons_self rfl rfl ⟨Nat.le_of_ble_eq_true rfl, Nat.le_of_ble_eq_true rfl⟩ (hbw _ w_0) (hbw _ w_603) (hbw _ w_604) (by decide +kernel) ⟨PL.blind, fun U hU hW => ⟨hE.to hS hU hW, PCZ.at hK hN hPC U hU hW⟩⟩ rfl rfl hl.1 rfl (lv_room (Nat.le_of_ble_eq_true rfl)) d_Law_law_934 hc) hS (fun q _ h => lw_aC hS rfl (fun _ h => h) h30 q h) (fun q h => lw_aC hS rfl (fun _ h => h) h30 q h) (fun t H1 locs ht hW hB hz1 hk1 hS => ?_)
  obtain ⟨hPC1, -, -⟩ := hB
  rw [ht] at hPC1
  have hPR := lw_keepM hPR hdis hk1
  clear hPC
  have hPC := hPC1
  clear hPC1 hk1
  obtain ⟨r1, r2, r3⟩ := R_people hR (xs (i + 1).toNatClampNeg) (xs (i + 2).toNatClampNeg) (xs (i + 3).toNatClampNeg) (xs (i + 4).toNatClampNeg)
  refine lv_istore (lv' := [(5, .int (hv_people x (xs (i + 1).toNatClampNeg) (xs (i + 2).toNatClampNeg) (xs (i + 3).toNatClampNeg) (xs (i + 4).toNatClampNeg))), (4, .int i), (0, .ref b), (1, .ref (ad 0)), (2, .ref (am 0)), (3, .ref (ad 29))]) hx hb d_Law_law_937 hl (by decide) rfl (fun ls hl => ?_)
  refine lv_aload_n hx hb d_Law_law_939 rfl (lv_at hl 4 rfl) ?_
  refine lv_aload_n hx hb d_Law_law_940 rfl (lv_at hl 2 rfl) ?_
  refine lv_iload hx hb d_Law_law_941 (lv_at hl 1 rfl) ?_
  refine lv_iconst (v := 1) hx hb d_Law_law_943 (by decide) ?_
  refine lv_iadd hx hb d_Law_law_944 ?_
  refine va_sld hx hb hX hbl hbA hS (lw_in hi hLm 1 (by decide)) d_Law_law_945 ?_
  refine lv_aload_n hx hb d_Law_law_946 rfl (lv_at hl 2 rfl) ?_
  refine lv_iload hx hb d_Law_law_947 (lv_at hl 1 rfl) ?_
  refine lv_iconst (v := 2) hx hb d_Law_law_949 (by decide) ?_
  refine lv_iadd hx hb d_Law_law_950 ?_
  refine va_sld hx hb hX hbl hbA hS (lw_in hi hLm 2 (by decide)) d_Law_law_951 ?_
  refine lv_aload_n hx hb d_Law_law_952 rfl (lv_at hl 2 rfl) ?_
  refine lv_iload hx hb d_Law_law_953 (lv_at hl 1 rfl) ?_
  refine lv_iconst (v := 3) hx hb d_Law_law_955 (by decide) ?_
  refine lv_iadd hx hb d_Law_law_956 ?_
  refine va_sld hx hb hX hbl hbA hS (lw_in hi hLm 3 (by decide)) d_Law_law_957 ?_
  refine lv_aload_n hx hb d_Law_law_958 rfl (lv_at hl 2 rfl) ?_
  refine lv_iload hx hb d_Law_law_959 (lv_at hl 1 rfl) ?_
  refine lv_iconst (v := 4) hx hb d_Law_law_961 (by decide) ?_
  refine lv_iadd hx hb d_Law_law_962 ?_
  refine va_sld hx hb hX hbl hbA hS (lw_in hi hLm 4 (by decide)) d_Law_law_963 ?_
  refine x_upd (x_runV (C := "PlanRowsModel") (b := am 0) (As := [.int (xs (i + 1).toNatClampNeg), .int (xs (i + 2).toNatClampNeg), .int (xs (i + 3).toNatClampNeg), .int (xs (i + 4).toNatClampNeg)]) (rest := []) ⟨hx, hb, hml, hown, hts⟩ (u_Mod_people l dC dI cI cZ am hjM z hR.2.1 H1.size (xs (i + 1).toNatClampNeg) (xs (i + 2).toNatClampNeg) (xs (i + 3).toNatClampNeg) (xs (i + 4).toNatClampNeg)) (cw_Law_141 hts rfl rfl ⟨Nat.le_of_ble_eq_true rfl, Nat.le_of_ble_eq_true rfl⟩) ⟨PCZ.blind, va_recv hK2 hPR (ci := 9) (q0 := 0) rfl rfl, PCZ.at hK2 hN hPR⟩ rfl rfl hl.1 rfl (lv_room (Nat.le_of_ble_eq_true rfl)) d_Law_law_964 hc2) hS (fun q _ h => lw_aC hS rfl (fun _ h => h) h21 q h) (fun q h => lw_aC hS rfl (fun _ h => h) h21 q h) (fun t H2 locs ht hW hB hz2 hk2 hS => ?_)
  obtain ⟨hPR1, -, -⟩ := hB
  rw [ht] at hPR1
  have hPC := lw_keepC hPC hdis hk2
  clear hPR
  have hPR := hPR1
  clear hPR1 hk2
  refine lv_istore (lv' := [(6, .int (g_Mod_people z (xs (i + 1).toNatClampNeg) (xs (i + 2).toNatClampNeg) (xs (i + 3).toNatClampNeg) (xs (i + 4).toNatClampNeg)).1), (5, .int (hv_people x (xs (i + 1).toNatClampNeg) (xs (i + 2).toNatClampNeg) (xs (i + 3).toNatClampNeg) (xs (i + 4).toNatClampNeg))), (4, .int i), (0, .ref b), (1, .ref (ad 0)), (2, .ref (am 0)), (3, .ref (ad 29))]) hx hb d_Law_law_967 hl (by decide) rfl (fun ls hl => ?_)
  refine lv_aload_n hx hb d_Law_law_969 rfl (lv_at hl 5 rfl) ?_
  refine x_pure (x_runV (C := "PlanRowsModel") (b := am 0) (As := []) (rest := []) ⟨hx, hb, hml, hown, hts⟩ (c_Mod_thrown l dC dI cI cZ am (g_Mod_people z (xs (i + 1).toNatClampNeg) (xs (i + 2).toNatClampNeg) (xs (i + 3).toNatClampNeg) (xs (i + 4).toNatClampNeg)).2 r3.2.1) (cw_Law_96 hts rfl rfl ⟨Nat.le_of_ble_eq_true rfl, Nat.le_of_ble_eq_true rfl⟩) ⟨PC.blind, va_recv hK2 hPR (ci := 9) (q0 := 0) rfl rfl, PC.at hK2 hN hPR⟩ rfl rfl hl.1 rfl (lv_room (Nat.le_of_ble_eq_true rfl)) d_Law_law_970 hc2) ?_
  refine lv_iload hx hb d_Law_law_973 (lv_at hl 1 rfl) ?_
  refine lv_icmp_eq (tgt := 980) hx hb d_Law_law_975 (by decide) (fun c3 => ?_) (fun c3 => absurd r1 c3)
  refine lv_iload hx hb d_Law_law_980 (lv_at hl 1 rfl) ?_
  refine lv_if_ne (tgt := 997) hx hb d_Law_law_982 (by decide) (fun c0 => ?_) (fun c0 => ?_)
  · refine lv_goto (tgt := 1530) hx hb d_Law_law_997 (by decide) ?_
    exact kk _ _ _ _ _ _ ⟨hPC, hPR, hS, r3⟩ (lv_sub hl [2, 3, 4, 5, 6] rfl)
  · refine lv_aload_n hx hb d_Law_law_985 rfl (lv_at hl 6 rfl) ?_
    refine lv_iconst (v := 0) hx hb d_Law_law_986 (by decide) ?_
    refine va_lald hx hb hK hPC 29 2 rfl rfl in01 d_Law_law_987 ?_
    refine lv_iload hx hb d_Law_law_988 (lv_at hl 0 rfl) ?_
    refine lv_i2l hx hb d_Law_law_990 rfl ?_
    refine W.lcmp hx hb d_Law_law_991 ?_
    refine lv_if_eq (tgt := 997) hx hb d_Law_law_992 (by decide) (fun c2 => ?_) (fun c2 => ?_)
    · refine lv_goto (tgt := 1530) hx hb d_Law_law_997 (by decide) ?_
      exact kk _ _ _ _ _ _ ⟨hPC, hPR, hS, r3⟩ (lv_sub hl [2, 3, 4, 5, 6] rfl)
    · exact absurd (oc_people hR (xs (i + 1).toNatClampNeg) (xs (i + 2).toNatClampNeg) (xs (i + 3).toNatClampNeg) (xs (i + 4).toNatClampNeg) fo c0) c2
set_option maxHeartbeats 1000000 in
set_option maxRecDepth 100000 in
theorem lc_inside {p : Program} {e : Env} {s : State} {m : MethodId} {below : List Frame} {meth : Method} {c : Code} {Q : State → Prop} {l : Launch} {b L : Nat} {xs : Nat → Int32} {dC : Nat → ClassId} {dI : Nat → Nat → Nat} {cI cZ cL : ClassId} {ad am : Nat → Nat} (hF : LF p s m meth c b L xs l dC dI cI cZ cL ad am) {i : Int32} (hi : 0 ≤ i.toInt ∧ i.toInt + 6 ≤ L) {H : Heap} {locs : List Loc} {x : ST} {z : RT} {fo : Nat → Int64} {ls : Array Slot} {cells slots : Nat} (hI : LI s dC dI cI cZ cL ad am H locs x z fo) (hl : lv_has ls 7 [(4, .int i), (0, .ref b), (1, .ref (ad 0)), (2, .ref (am 0)), (3, .ref (ad 29))]) (hc : cells + 1 ≤ 1088 ∧ slots + 6 ≤ 10706) (kk : ∀ (H : Heap) (locs : List Loc) (x : ST) (z : RT) (fo : Nat → Int64) (ls : Array Slot), LI s dC dI cI cZ cL ad am H locs x z fo → lv_has ls 7 [(4, .int i), (0, .ref b), (1, .ref (ad 0)), (2, .ref (am 0)), (3, .ref (ad 29))] → W p l e room_1 s m #[Value.ref b] below meth c H locs (cells + 1) (slots + 6) Q (F0 m 1530 ls [])) : W p l e room_1 s m #[Value.ref b] below meth c H locs cells slots Q (F0 m 1000 ls []) := by
  obtain ⟨htr, hx, hb, hret, hml, hown, hts, hX, hbl, hlocks, hLm, hE, hK, hN, hj, hjM, hdis, h30, h21⟩ := hF
  obtain ⟨hPC, hPR, hS, hR⟩ := hI
  have hbw : ∀ w ∈ BW, w.before #[Value.ref b] s = true := fun w h => hts w (List.mem_cons_of_mem _ h)
  have hbA : ¬ s.heap.size ≤ b := Nat.not_le.mpr hbl
  have hK2 : va_K (dC, dI) clsA [(cI, .int), (cZ, .boolean)] s := hK.sub [0, 1] rfl
  have hc2 : cells + 1 + 0 ≤ 1088 ∧ slots + 6 + 0 ≤ 10706 := hc
  refine lv_aload_n hx hb d_Law_law_1000 rfl (lv_at hl 2 rfl) ?_
  refine lv_aload_n hx hb d_Law_law_1001 rfl (lv_at hl 1 rfl) ?_
  refine lv_iload hx hb d_Law_law_1002 (lv_at hl 0 rfl) ?_
  refine lv_iconst (v := 1) hx hb d_Law_law_1004 (by decide) ?_
  refine lv_iadd hx hb d_Law_law_1005 ?_
  refine va_sld hx hb hX hbl hbA hS (lw_in hi hLm 1 (by decide)) d_Law_law_1006 ?_
  refine lv_aload_n hx hb d_Law_law_1007 rfl (lv_at hl 1 rfl) ?_
  refine lv_iload hx hb d_Law_law_1008 (lv_at hl 0 rfl) ?_
  refine lv_iconst (v := 2) hx hb d_Law_law_1010 (by decide) ?_
  refine lv_iadd hx hb d_Law_law_1011 ?_
  refine va_sld hx hb hX hbl hbA hS (lw_in hi hLm 2 (by decide)) d_Law_law_1012 ?_
  refine lv_aload_n hx hb d_Law_law_1013 rfl (lv_at hl 4 rfl) ?_
  refine x_upd (x_runSW (n := 4) (y := y_Law_inside) (bytes := b_Law_inside) (maxL := 5) (ret := some .int) (hs := [(0, 10, 13, 13), (0, 10, 17, 15)]) (As := [.ref (ad 0), .int (xs (i + 1).toNatClampNeg), .int (xs (i + 2).toNatClampNeg), .ref (ad 29)]) (rest := []) ⟨hx, hb, hml, hown, hts⟩ (h_inside l htr dC dI cI cZ cL ad hj x hR.cin fo H.size (xs (i + 1).toNatClampNeg) (xs (i + 2).toNatClampNeg)) (gBW w_616) List.mem_cons_self rfl rfl ⟨Nat.le_of_ble_eq_true rfl, Nat.le_of_ble_eq_true rfl⟩ (hbw _ w_0) (hbw _ w_614) (hbw _ w_615) (by decide +kernel) ⟨PL.blind, fun U hU hW => ⟨hE.to hS hU hW, PCZ.at hK hN hPC U hU hW⟩⟩ rfl rfl hl.1 rfl (lv_room (Nat.le_of_ble_eq_true rfl)) d_Law_law_1014 hc) hS (fun q _ h => lw_aC hS rfl (fun _ h => h) h30 q h) (fun q h => lw_aC hS rfl (fun _ h => h) h30 q h) (fun t H1 locs ht hW hB hz1 hk1 hS => ?_)
  obtain ⟨hPC1, -, -⟩ := hB
  rw [ht] at hPC1
  have hPR := lw_keepM hPR hdis hk1
  clear hPC
  have hPC := hPC1
  clear hPC1 hk1
  obtain ⟨r1, r2, r3⟩ := R_inside hR (xs (i + 1).toNatClampNeg) (xs (i + 2).toNatClampNeg)
  refine lv_istore (lv' := [(5, .int (hv_inside x (xs (i + 1).toNatClampNeg) (xs (i + 2).toNatClampNeg))), (4, .int i), (0, .ref b), (1, .ref (ad 0)), (2, .ref (am 0)), (3, .ref (ad 29))]) hx hb d_Law_law_1017 hl (by decide) rfl (fun ls hl => ?_)
  refine lv_aload_n hx hb d_Law_law_1019 rfl (lv_at hl 4 rfl) ?_
  refine lv_aload_n hx hb d_Law_law_1020 rfl (lv_at hl 2 rfl) ?_
  refine lv_iload hx hb d_Law_law_1021 (lv_at hl 1 rfl) ?_
  refine lv_iconst (v := 1) hx hb d_Law_law_1023 (by decide) ?_
  refine lv_iadd hx hb d_Law_law_1024 ?_
  refine va_sld hx hb hX hbl hbA hS (lw_in hi hLm 1 (by decide)) d_Law_law_1025 ?_
  refine lv_aload_n hx hb d_Law_law_1026 rfl (lv_at hl 2 rfl) ?_
  refine lv_iload hx hb d_Law_law_1027 (lv_at hl 1 rfl) ?_
  refine lv_iconst (v := 2) hx hb d_Law_law_1029 (by decide) ?_
  refine lv_iadd hx hb d_Law_law_1030 ?_
  refine va_sld hx hb hX hbl hbA hS (lw_in hi hLm 2 (by decide)) d_Law_law_1031 ?_
  refine x_upd (x_runV (C := "PlanRowsModel") (b := am 0) (As := [.int (xs (i + 1).toNatClampNeg), .int (xs (i + 2).toNatClampNeg)]) (rest := []) ⟨hx, hb, hml, hown, hts⟩ (u_Mod_inside l dC dI cI cZ am hjM z hR.2.1 H1.size (xs (i + 1).toNatClampNeg) (xs (i + 2).toNatClampNeg)) (cw_Law_144 hts rfl rfl ⟨Nat.le_of_ble_eq_true rfl, Nat.le_of_ble_eq_true rfl⟩) ⟨PCZ.blind, va_recv hK2 hPR (ci := 9) (q0 := 0) rfl rfl, PCZ.at hK2 hN hPR⟩ rfl rfl hl.1 rfl (lv_room (Nat.le_of_ble_eq_true rfl)) d_Law_law_1032 hc2) hS (fun q _ h => lw_aC hS rfl (fun _ h => h) h21 q h) (fun q h => lw_aC hS rfl (fun _ h => h) h21 q h) (fun t H2 locs ht hW hB hz2 hk2 hS => ?_)
  obtain ⟨hPR1, -, -⟩ := hB
  rw [ht] at hPR1
  have hPC := lw_keepC hPC hdis hk2
  clear hPR
  have hPR := hPR1
  clear hPR1 hk2
  refine lv_istore (lv' := [(6, .int (g_Mod_inside z (xs (i + 1).toNatClampNeg) (xs (i + 2).toNatClampNeg)).1), (5, .int (hv_inside x (xs (i + 1).toNatClampNeg) (xs (i + 2).toNatClampNeg))), (4, .int i), (0, .ref b), (1, .ref (ad 0)), (2, .ref (am 0)), (3, .ref (ad 29))]) hx hb d_Law_law_1035 hl (by decide) rfl (fun ls hl => ?_)
  refine lv_aload_n hx hb d_Law_law_1037 rfl (lv_at hl 5 rfl) ?_
  refine x_pure (x_runV (C := "PlanRowsModel") (b := am 0) (As := []) (rest := []) ⟨hx, hb, hml, hown, hts⟩ (c_Mod_thrown l dC dI cI cZ am (g_Mod_inside z (xs (i + 1).toNatClampNeg) (xs (i + 2).toNatClampNeg)).2 r3.2.1) (cw_Law_96 hts rfl rfl ⟨Nat.le_of_ble_eq_true rfl, Nat.le_of_ble_eq_true rfl⟩) ⟨PC.blind, va_recv hK2 hPR (ci := 9) (q0 := 0) rfl rfl, PC.at hK2 hN hPR⟩ rfl rfl hl.1 rfl (lv_room (Nat.le_of_ble_eq_true rfl)) d_Law_law_1038 hc2) ?_
  refine lv_iload hx hb d_Law_law_1041 (lv_at hl 1 rfl) ?_
  refine lv_icmp_eq (tgt := 1048) hx hb d_Law_law_1043 (by decide) (fun c3 => ?_) (fun c3 => absurd r1 c3)
  refine lv_iload hx hb d_Law_law_1048 (lv_at hl 1 rfl) ?_
  refine lv_if_ne (tgt := 1065) hx hb d_Law_law_1050 (by decide) (fun c0 => ?_) (fun c0 => ?_)
  · refine lv_goto (tgt := 1530) hx hb d_Law_law_1065 (by decide) ?_
    exact kk _ _ _ _ _ _ ⟨hPC, hPR, hS, r3⟩ (lv_sub hl [2, 3, 4, 5, 6] rfl)
  · refine lv_aload_n hx hb d_Law_law_1053 rfl (lv_at hl 6 rfl) ?_
    refine lv_iconst (v := 0) hx hb d_Law_law_1054 (by decide) ?_
    refine va_lald hx hb hK hPC 29 2 rfl rfl in01 d_Law_law_1055 ?_
    refine lv_iload hx hb d_Law_law_1056 (lv_at hl 0 rfl) ?_
    refine lv_i2l hx hb d_Law_law_1058 rfl ?_
    refine W.lcmp hx hb d_Law_law_1059 ?_
    refine lv_if_eq (tgt := 1065) hx hb d_Law_law_1060 (by decide) (fun c2 => ?_) (fun c2 => ?_)
    · refine lv_goto (tgt := 1530) hx hb d_Law_law_1065 (by decide) ?_
      exact kk _ _ _ _ _ _ ⟨hPC, hPR, hS, r3⟩ (lv_sub hl [2, 3, 4, 5, 6] rfl)
    · exact absurd (oc_inside hR (xs (i + 1).toNatClampNeg) (xs (i + 2).toNatClampNeg) fo c0) c2
set_option maxHeartbeats 1000000 in
set_option maxRecDepth 100000 in
theorem lc_window {p : Program} {e : Env} {s : State} {m : MethodId} {below : List Frame} {meth : Method} {c : Code} {Q : State → Prop} {l : Launch} {b L : Nat} {xs : Nat → Int32} {dC : Nat → ClassId} {dI : Nat → Nat → Nat} {cI cZ cL : ClassId} {ad am : Nat → Nat} (hF : LF p s m meth c b L xs l dC dI cI cZ cL ad am) {i : Int32} (hi : 0 ≤ i.toInt ∧ i.toInt + 6 ≤ L) {H : Heap} {locs : List Loc} {x : ST} {z : RT} {fo : Nat → Int64} {ls : Array Slot} {cells slots : Nat} (hI : LI s dC dI cI cZ cL ad am H locs x z fo) (hl : lv_has ls 7 [(4, .int i), (0, .ref b), (1, .ref (ad 0)), (2, .ref (am 0)), (3, .ref (ad 29))]) (hc : cells + 1 ≤ 1088 ∧ slots + 6 ≤ 10706) (kk : ∀ (H : Heap) (locs : List Loc) (x : ST) (z : RT) (fo : Nat → Int64) (ls : Array Slot), LI s dC dI cI cZ cL ad am H locs x z fo → lv_has ls 7 [(4, .int i), (0, .ref b), (1, .ref (ad 0)), (2, .ref (am 0)), (3, .ref (ad 29))] → W p l e room_1 s m #[Value.ref b] below meth c H locs (cells + 1) (slots + 6) Q (F0 m 1530 ls [])) : W p l e room_1 s m #[Value.ref b] below meth c H locs cells slots Q (F0 m 1068 ls []) := by
  obtain ⟨htr, hx, hb, hret, hml, hown, hts, hX, hbl, hlocks, hLm, hE, hK, hN, hj, hjM, hdis, h30, h21⟩ := hF
  obtain ⟨hPC, hPR, hS, hR⟩ := hI
  have hbw : ∀ w ∈ BW, w.before #[Value.ref b] s = true := fun w h => hts w (List.mem_cons_of_mem _ h)
  have hbA : ¬ s.heap.size ≤ b := Nat.not_le.mpr hbl
  have hK2 : va_K (dC, dI) clsA [(cI, .int), (cZ, .boolean)] s := hK.sub [0, 1] rfl
  have hc2 : cells + 1 + 0 ≤ 1088 ∧ slots + 6 + 0 ≤ 10706 := hc
  refine lv_aload_n hx hb d_Law_law_1068 rfl (lv_at hl 2 rfl) ?_
  refine lv_aload_n hx hb d_Law_law_1069 rfl (lv_at hl 1 rfl) ?_
  refine lv_iload hx hb d_Law_law_1070 (lv_at hl 0 rfl) ?_
  refine lv_iconst (v := 1) hx hb d_Law_law_1072 (by decide) ?_
  refine lv_iadd hx hb d_Law_law_1073 ?_
  refine va_sld hx hb hX hbl hbA hS (lw_in hi hLm 1 (by decide)) d_Law_law_1074 ?_
  refine lv_aload_n hx hb d_Law_law_1075 rfl (lv_at hl 1 rfl) ?_
  refine lv_iload hx hb d_Law_law_1076 (lv_at hl 0 rfl) ?_
  refine lv_iconst (v := 2) hx hb d_Law_law_1078 (by decide) ?_
  refine lv_iadd hx hb d_Law_law_1079 ?_
  refine va_sld hx hb hX hbl hbA hS (lw_in hi hLm 2 (by decide)) d_Law_law_1080 ?_
  refine lv_aload_n hx hb d_Law_law_1081 rfl (lv_at hl 1 rfl) ?_
  refine lv_iload hx hb d_Law_law_1082 (lv_at hl 0 rfl) ?_
  refine lv_iconst (v := 3) hx hb d_Law_law_1084 (by decide) ?_
  refine lv_iadd hx hb d_Law_law_1085 ?_
  refine va_sld hx hb hX hbl hbA hS (lw_in hi hLm 3 (by decide)) d_Law_law_1086 ?_
  refine lv_aload_n hx hb d_Law_law_1087 rfl (lv_at hl 1 rfl) ?_
  refine lv_iload hx hb d_Law_law_1088 (lv_at hl 0 rfl) ?_
  refine lv_iconst (v := 4) hx hb d_Law_law_1090 (by decide) ?_
  refine lv_iadd hx hb d_Law_law_1091 ?_
  refine va_sld hx hb hX hbl hbA hS (lw_in hi hLm 4 (by decide)) d_Law_law_1092 ?_
  refine lv_aload_n hx hb d_Law_law_1093 rfl (lv_at hl 4 rfl) ?_
  refine x_upd (x_runSW (n := 6) (y := y_Law_window) (bytes := b_Law_window) (maxL := 7) (ret := some .int) (hs := [(0, 14, 17, 13), (0, 14, 21, 15), (0, 14, 25, 17)]) (As := [.ref (ad 0), .int (xs (i + 1).toNatClampNeg), .int (xs (i + 2).toNatClampNeg), .int (xs (i + 3).toNatClampNeg), .int (xs (i + 4).toNatClampNeg), .ref (ad 29)]) (rest := []) ⟨hx, hb, hml, hown, hts⟩ (h_window l htr dC dI cI cZ cL ad hj x hR.cin fo H.size (xs (i + 1).toNatClampNeg) (xs (i + 2).toNatClampNeg) (xs (i + 3).toNatClampNeg) (xs (i + 4).toNatClampNeg)) (gBW w_631) List.mem_cons_self rfl rfl ⟨Nat.le_of_ble_eq_true rfl, Nat.le_of_ble_eq_true rfl⟩ (hbw _ w_0) (hbw _ w_629) (hbw _ w_630) (by decide +kernel) ⟨PL.blind, fun U hU hW => ⟨hE.to hS hU hW, PCZ.at hK hN hPC U hU hW⟩⟩ rfl rfl hl.1 rfl (lv_room (Nat.le_of_ble_eq_true rfl)) d_Law_law_1094 hc) hS (fun q _ h => lw_aC hS rfl (fun _ h => h) h30 q h) (fun q h => lw_aC hS rfl (fun _ h => h) h30 q h) (fun t H1 locs ht hW hB hz1 hk1 hS => ?_)
  obtain ⟨hPC1, -, -⟩ := hB
  rw [ht] at hPC1
  have hPR := lw_keepM hPR hdis hk1
  clear hPC
  have hPC := hPC1
  clear hPC1 hk1
  obtain ⟨r1, r2, r3⟩ := R_window hR (xs (i + 1).toNatClampNeg) (xs (i + 2).toNatClampNeg) (xs (i + 3).toNatClampNeg) (xs (i + 4).toNatClampNeg)
  refine lv_istore (lv' := [(5, .int (hv_window x (xs (i + 1).toNatClampNeg) (xs (i + 2).toNatClampNeg) (xs (i + 3).toNatClampNeg) (xs (i + 4).toNatClampNeg))), (4, .int i), (0, .ref b), (1, .ref (ad 0)), (2, .ref (am 0)), (3, .ref (ad 29))]) hx hb d_Law_law_1097 hl (by decide) rfl (fun ls hl => ?_)
  refine lv_aload_n hx hb d_Law_law_1099 rfl (lv_at hl 4 rfl) ?_
  refine lv_aload_n hx hb d_Law_law_1100 rfl (lv_at hl 2 rfl) ?_
  refine lv_iload hx hb d_Law_law_1101 (lv_at hl 1 rfl) ?_
  refine lv_iconst (v := 1) hx hb d_Law_law_1103 (by decide) ?_
  refine lv_iadd hx hb d_Law_law_1104 ?_
  refine va_sld hx hb hX hbl hbA hS (lw_in hi hLm 1 (by decide)) d_Law_law_1105 ?_
  refine lv_aload_n hx hb d_Law_law_1106 rfl (lv_at hl 2 rfl) ?_
  refine lv_iload hx hb d_Law_law_1107 (lv_at hl 1 rfl) ?_
  refine lv_iconst (v := 2) hx hb d_Law_law_1109 (by decide) ?_
  refine lv_iadd hx hb d_Law_law_1110 ?_
  refine va_sld hx hb hX hbl hbA hS (lw_in hi hLm 2 (by decide)) d_Law_law_1111 ?_
  refine lv_aload_n hx hb d_Law_law_1112 rfl (lv_at hl 2 rfl) ?_
  refine lv_iload hx hb d_Law_law_1113 (lv_at hl 1 rfl) ?_
  refine lv_iconst (v := 3) hx hb d_Law_law_1115 (by decide) ?_
  refine lv_iadd hx hb d_Law_law_1116 ?_
  refine va_sld hx hb hX hbl hbA hS (lw_in hi hLm 3 (by decide)) d_Law_law_1117 ?_
  refine lv_aload_n hx hb d_Law_law_1118 rfl (lv_at hl 2 rfl) ?_
  refine lv_iload hx hb d_Law_law_1119 (lv_at hl 1 rfl) ?_
  refine lv_iconst (v := 4) hx hb d_Law_law_1121 (by decide) ?_
  refine lv_iadd hx hb d_Law_law_1122 ?_
  refine va_sld hx hb hX hbl hbA hS (lw_in hi hLm 4 (by decide)) d_Law_law_1123 ?_
  refine x_upd (x_runV (C := "PlanRowsModel") (b := am 0) (As := [.int (xs (i + 1).toNatClampNeg), .int (xs (i + 2).toNatClampNeg), .int (xs (i + 3).toNatClampNeg), .int (xs (i + 4).toNatClampNeg)]) (rest := []) ⟨hx, hb, hml, hown, hts⟩ (u_Mod_window l dC dI cI cZ am hjM z hR.2.1 H1.size (xs (i + 1).toNatClampNeg) (xs (i + 2).toNatClampNeg) (xs (i + 3).toNatClampNeg) (xs (i + 4).toNatClampNeg)) (cw_Law_147 hts rfl rfl ⟨Nat.le_of_ble_eq_true rfl, Nat.le_of_ble_eq_true rfl⟩) ⟨PCZ.blind, va_recv hK2 hPR (ci := 9) (q0 := 0) rfl rfl, PCZ.at hK2 hN hPR⟩ rfl rfl hl.1 rfl (lv_room (Nat.le_of_ble_eq_true rfl)) d_Law_law_1124 hc2) hS (fun q _ h => lw_aC hS rfl (fun _ h => h) h21 q h) (fun q h => lw_aC hS rfl (fun _ h => h) h21 q h) (fun t H2 locs ht hW hB hz2 hk2 hS => ?_)
  obtain ⟨hPR1, -, -⟩ := hB
  rw [ht] at hPR1
  have hPC := lw_keepC hPC hdis hk2
  clear hPR
  have hPR := hPR1
  clear hPR1 hk2
  refine lv_istore (lv' := [(6, .int (g_Mod_window z (xs (i + 1).toNatClampNeg) (xs (i + 2).toNatClampNeg) (xs (i + 3).toNatClampNeg) (xs (i + 4).toNatClampNeg)).1), (5, .int (hv_window x (xs (i + 1).toNatClampNeg) (xs (i + 2).toNatClampNeg) (xs (i + 3).toNatClampNeg) (xs (i + 4).toNatClampNeg))), (4, .int i), (0, .ref b), (1, .ref (ad 0)), (2, .ref (am 0)), (3, .ref (ad 29))]) hx hb d_Law_law_1127 hl (by decide) rfl (fun ls hl => ?_)
  refine lv_aload_n hx hb d_Law_law_1129 rfl (lv_at hl 5 rfl) ?_
  refine x_pure (x_runV (C := "PlanRowsModel") (b := am 0) (As := []) (rest := []) ⟨hx, hb, hml, hown, hts⟩ (c_Mod_thrown l dC dI cI cZ am (g_Mod_window z (xs (i + 1).toNatClampNeg) (xs (i + 2).toNatClampNeg) (xs (i + 3).toNatClampNeg) (xs (i + 4).toNatClampNeg)).2 r3.2.1) (cw_Law_96 hts rfl rfl ⟨Nat.le_of_ble_eq_true rfl, Nat.le_of_ble_eq_true rfl⟩) ⟨PC.blind, va_recv hK2 hPR (ci := 9) (q0 := 0) rfl rfl, PC.at hK2 hN hPR⟩ rfl rfl hl.1 rfl (lv_room (Nat.le_of_ble_eq_true rfl)) d_Law_law_1130 hc2) ?_
  refine lv_iload hx hb d_Law_law_1133 (lv_at hl 1 rfl) ?_
  refine lv_icmp_eq (tgt := 1140) hx hb d_Law_law_1135 (by decide) (fun c3 => ?_) (fun c3 => absurd r1 c3)
  refine lv_iload hx hb d_Law_law_1140 (lv_at hl 1 rfl) ?_
  refine lv_if_ne (tgt := 1157) hx hb d_Law_law_1142 (by decide) (fun c0 => ?_) (fun c0 => ?_)
  · refine lv_goto (tgt := 1530) hx hb d_Law_law_1157 (by decide) ?_
    exact kk _ _ _ _ _ _ ⟨hPC, hPR, hS, r3⟩ (lv_sub hl [2, 3, 4, 5, 6] rfl)
  · refine lv_aload_n hx hb d_Law_law_1145 rfl (lv_at hl 6 rfl) ?_
    refine lv_iconst (v := 0) hx hb d_Law_law_1146 (by decide) ?_
    refine va_lald hx hb hK hPC 29 2 rfl rfl in01 d_Law_law_1147 ?_
    refine lv_iload hx hb d_Law_law_1148 (lv_at hl 0 rfl) ?_
    refine lv_i2l hx hb d_Law_law_1150 rfl ?_
    refine W.lcmp hx hb d_Law_law_1151 ?_
    refine lv_if_eq (tgt := 1157) hx hb d_Law_law_1152 (by decide) (fun c2 => ?_) (fun c2 => ?_)
    · refine lv_goto (tgt := 1530) hx hb d_Law_law_1157 (by decide) ?_
      exact kk _ _ _ _ _ _ ⟨hPC, hPR, hS, r3⟩ (lv_sub hl [2, 3, 4, 5, 6] rfl)
    · exact absurd (oc_window hR (xs (i + 1).toNatClampNeg) (xs (i + 2).toNatClampNeg) (xs (i + 3).toNatClampNeg) (xs (i + 4).toNatClampNeg) fo c0) c2
