set_option maxHeartbeats 1000000 in
set_option maxRecDepth 100000 in
theorem lc_reaches {p : Program} {e : Env} {s : State} {m : MethodId} {below : List Frame} {meth : Method} {c : Code} {Q : State → Prop} {l : Launch} {b L : Nat} {xs : Nat → Int32} {dC : Nat → ClassId} {dI : Nat → Nat → Nat} {cI cZ cL : ClassId} {ad am : Nat → Nat} (hF : LF p s m meth c b L xs l dC dI cI cZ cL ad am) {i : Int32} (hi : 0 ≤ i.toInt ∧ i.toInt + 6 ≤ L) {H : Heap} {locs : List Loc} {x : ST} {z : RT} {fo : Nat → Int64} {ls : Array Slot} {cells slots : Nat} (hI : LI s dC dI cI cZ cL ad am H locs x z fo) (hl : lv_has ls 7 [(4, .int i), (0, .ref b), (1, .ref (ad 0)), (2, .ref (am 0)), (3, .ref (ad 29))]) (hc : cells + 1 ≤ 1088 ∧ slots + 6 ≤ 10706) (kk : ∀ (H : Heap) (locs : List Loc) (x : ST) (z : RT) (fo : Nat → Int64) (ls : Array Slot), LI s dC dI cI cZ cL ad am H locs x z fo → lv_has ls 7 [(4, .int i), (0, .ref b), (1, .ref (ad 0)), (2, .ref (am 0)), (3, .ref (ad 29))] → W p l e room_1 s m #[Value.ref b] below meth c H locs (cells + 1) (slots + 6) Q (F0 m 1530 ls [])) : W p l e room_1 s m #[Value.ref b] below meth c H locs cells slots Q (F0 m 1160 ls []) := by
  obtain ⟨htr, hx, hb, hret, hml, hown, hts, hX, hbl, hlocks, hLm, hE, hK, hN, hj, hjM, hdis, h30, h21⟩ := hF
  obtain ⟨hPC, hPR, hS, hR⟩ := hI
  have hbw : ∀ w ∈ BW, w.before #[Value.ref b] s = true := fun w h => hts w (List.mem_cons_of_mem _ h)
  have hbA : ¬ s.heap.size ≤ b := Nat.not_le.mpr hbl
  have hK2 : va_K (dC, dI) clsA [(cI, .int), (cZ, .boolean)] s := hK.sub [0, 1] rfl
  have hc2 : cells + 1 + 0 ≤ 1088 ∧ slots + 6 + 0 ≤ 10706 := hc
  refine lv_aload_n hx hb d_Law_law_1160 rfl (lv_at hl 2 rfl) ?_
  refine lv_aload_n hx hb d_Law_law_1161 rfl (lv_at hl 1 rfl) ?_
  refine lv_iload hx hb d_Law_law_1162 (lv_at hl 0 rfl) ?_
  refine lv_iconst (v := 1) hx hb d_Law_law_1164 (by decide) ?_
  refine lv_iadd hx hb d_Law_law_1165 ?_
  refine va_sld hx hb hX hbl hbA hS (lw_in hi hLm 1 (by decide)) d_Law_law_1166 ?_
  refine lv_aload_n hx hb d_Law_law_1167 rfl (lv_at hl 1 rfl) ?_
  refine lv_iload hx hb d_Law_law_1168 (lv_at hl 0 rfl) ?_
  refine lv_iconst (v := 2) hx hb d_Law_law_1170 (by decide) ?_
  refine lv_iadd hx hb d_Law_law_1171 ?_
  refine va_sld hx hb hX hbl hbA hS (lw_in hi hLm 2 (by decide)) d_Law_law_1172 ?_
  refine lv_aload_n hx hb d_Law_law_1173 rfl (lv_at hl 1 rfl) ?_
  refine lv_iload hx hb d_Law_law_1174 (lv_at hl 0 rfl) ?_
  refine lv_iconst (v := 3) hx hb d_Law_law_1176 (by decide) ?_
  refine lv_iadd hx hb d_Law_law_1177 ?_
  refine va_sld hx hb hX hbl hbA hS (lw_in hi hLm 3 (by decide)) d_Law_law_1178 ?_
  refine lv_aload_n hx hb d_Law_law_1179 rfl (lv_at hl 1 rfl) ?_
  refine lv_iload hx hb d_Law_law_1180 (lv_at hl 0 rfl) ?_
  refine lv_iconst (v := 4) hx hb d_Law_law_1182 (by decide) ?_
  refine lv_iadd hx hb d_Law_law_1183 ?_
  refine va_sld hx hb hX hbl hbA hS (lw_in hi hLm 4 (by decide)) d_Law_law_1184 ?_
  refine lv_aload_n hx hb d_Law_law_1185 rfl (lv_at hl 1 rfl) ?_
  refine lv_iload hx hb d_Law_law_1186 (lv_at hl 0 rfl) ?_
  refine lv_iconst (v := 5) hx hb d_Law_law_1188 (by decide) ?_
  refine lv_iadd hx hb d_Law_law_1189 ?_
  refine va_sld hx hb hX hbl hbA hS (lw_in hi hLm 5 (by decide)) d_Law_law_1190 ?_
  refine lv_aload_n hx hb d_Law_law_1191 rfl (lv_at hl 4 rfl) ?_
  refine x_upd (x_runSW (n := 7) (y := y_Law_reaches) (bytes := b_Law_reaches) (maxL := 8) (ret := some .int) (hs := [(0, 23, 26, 13), (0, 23, 30, 15)]) (As := [.ref (ad 0), .int (xs (i + 1).toNatClampNeg), .int (xs (i + 2).toNatClampNeg), .int (xs (i + 3).toNatClampNeg), .int (xs (i + 4).toNatClampNeg), .int (xs (i + 5).toNatClampNeg), .ref (ad 29)]) (rest := []) ⟨hx, hb, hml, hown, hts⟩ (h_reaches l htr dC dI cI cZ cL ad hj x hR.cin fo H.size (xs (i + 1).toNatClampNeg) (xs (i + 2).toNatClampNeg) (xs (i + 3).toNatClampNeg) (xs (i + 4).toNatClampNeg) (xs (i + 5).toNatClampNeg)) (gBW w_647) List.mem_cons_self rfl rfl ⟨Nat.le_of_ble_eq_true rfl, Nat.le_of_ble_eq_true rfl⟩ (hbw _ w_0) (hbw _ w_645) (hbw _ w_646) (by decide +kernel) ⟨PL.blind, fun U hU hW => ⟨hE.to hS hU hW, PCZ.at hK hN hPC U hU hW⟩⟩ rfl rfl hl.1 rfl (lv_room (Nat.le_of_ble_eq_true rfl)) d_Law_law_1192 hc) hS (fun q _ h => lw_aC hS rfl (fun _ h => h) h30 q h) (fun q h => lw_aC hS rfl (fun _ h => h) h30 q h) (fun t H1 locs ht hW hB hz1 hk1 hS => ?_)
  obtain ⟨hPC1, -, -⟩ := hB
  rw [ht] at hPC1
  have hPR := lw_keepM hPR hdis hk1
  clear hPC
  have hPC := hPC1
  clear hPC1 hk1
  obtain ⟨r1, r2, r3⟩ := R_reaches hR (xs (i + 1).toNatClampNeg) (xs (i + 2).toNatClampNeg) (xs (i + 3).toNatClampNeg) (xs (i + 4).toNatClampNeg) (xs (i + 5).toNatClampNeg)
  refine lv_istore (lv' := [(5, .int (hv_reaches x (xs (i + 1).toNatClampNeg) (xs (i + 2).toNatClampNeg) (xs (i + 3).toNatClampNeg) (xs (i + 4).toNatClampNeg) (xs (i + 5).toNatClampNeg))), (4, .int i), (0, .ref b), (1, .ref (ad 0)), (2, .ref (am 0)), (3, .ref (ad 29))]) hx hb d_Law_law_1195 hl (by decide) rfl (fun ls hl => ?_)
  refine lv_aload_n hx hb d_Law_law_1197 rfl (lv_at hl 4 rfl) ?_
  refine lv_aload_n hx hb d_Law_law_1198 rfl (lv_at hl 2 rfl) ?_
  refine lv_iload hx hb d_Law_law_1199 (lv_at hl 1 rfl) ?_
  refine lv_iconst (v := 1) hx hb d_Law_law_1201 (by decide) ?_
  refine lv_iadd hx hb d_Law_law_1202 ?_
  refine va_sld hx hb hX hbl hbA hS (lw_in hi hLm 1 (by decide)) d_Law_law_1203 ?_
  refine lv_aload_n hx hb d_Law_law_1204 rfl (lv_at hl 2 rfl) ?_
  refine lv_iload hx hb d_Law_law_1205 (lv_at hl 1 rfl) ?_
  refine lv_iconst (v := 2) hx hb d_Law_law_1207 (by decide) ?_
  refine lv_iadd hx hb d_Law_law_1208 ?_
  refine va_sld hx hb hX hbl hbA hS (lw_in hi hLm 2 (by decide)) d_Law_law_1209 ?_
  refine lv_aload_n hx hb d_Law_law_1210 rfl (lv_at hl 2 rfl) ?_
  refine lv_iload hx hb d_Law_law_1211 (lv_at hl 1 rfl) ?_
  refine lv_iconst (v := 3) hx hb d_Law_law_1213 (by decide) ?_
  refine lv_iadd hx hb d_Law_law_1214 ?_
  refine va_sld hx hb hX hbl hbA hS (lw_in hi hLm 3 (by decide)) d_Law_law_1215 ?_
  refine lv_aload_n hx hb d_Law_law_1216 rfl (lv_at hl 2 rfl) ?_
  refine lv_iload hx hb d_Law_law_1217 (lv_at hl 1 rfl) ?_
  refine lv_iconst (v := 4) hx hb d_Law_law_1219 (by decide) ?_
  refine lv_iadd hx hb d_Law_law_1220 ?_
  refine va_sld hx hb hX hbl hbA hS (lw_in hi hLm 4 (by decide)) d_Law_law_1221 ?_
  refine lv_aload_n hx hb d_Law_law_1222 rfl (lv_at hl 2 rfl) ?_
  refine lv_iload hx hb d_Law_law_1223 (lv_at hl 1 rfl) ?_
  refine lv_iconst (v := 5) hx hb d_Law_law_1225 (by decide) ?_
  refine lv_iadd hx hb d_Law_law_1226 ?_
  refine va_sld hx hb hX hbl hbA hS (lw_in hi hLm 5 (by decide)) d_Law_law_1227 ?_
  refine x_upd (x_runV (C := "PlanRowsModel") (b := am 0) (As := [.int (xs (i + 1).toNatClampNeg), .int (xs (i + 2).toNatClampNeg), .int (xs (i + 3).toNatClampNeg), .int (xs (i + 4).toNatClampNeg), .int (xs (i + 5).toNatClampNeg)]) (rest := []) ⟨hx, hb, hml, hown, hts⟩ (u_Mod_reaches l dC dI cI cZ am hjM z hR.2.1 H1.size (xs (i + 1).toNatClampNeg) (xs (i + 2).toNatClampNeg) (xs (i + 3).toNatClampNeg) (xs (i + 4).toNatClampNeg) (xs (i + 5).toNatClampNeg)) (cw_Law_151 hts rfl rfl ⟨Nat.le_of_ble_eq_true rfl, Nat.le_of_ble_eq_true rfl⟩) ⟨PCZ.blind, va_recv hK2 hPR (ci := 9) (q0 := 0) rfl rfl, PCZ.at hK2 hN hPR⟩ rfl rfl hl.1 rfl (lv_room (Nat.le_of_ble_eq_true rfl)) d_Law_law_1228 hc2) hS (fun q _ h => lw_aC hS rfl (fun _ h => h) h21 q h) (fun q h => lw_aC hS rfl (fun _ h => h) h21 q h) (fun t H2 locs ht hW hB hz2 hk2 hS => ?_)
  obtain ⟨hPR1, -, -⟩ := hB
  rw [ht] at hPR1
  have hPC := lw_keepC hPC hdis hk2
  clear hPR
  have hPR := hPR1
  clear hPR1 hk2
  refine lv_istore (lv' := [(6, .int (g_Mod_reaches z (xs (i + 1).toNatClampNeg) (xs (i + 2).toNatClampNeg) (xs (i + 3).toNatClampNeg) (xs (i + 4).toNatClampNeg) (xs (i + 5).toNatClampNeg)).1), (5, .int (hv_reaches x (xs (i + 1).toNatClampNeg) (xs (i + 2).toNatClampNeg) (xs (i + 3).toNatClampNeg) (xs (i + 4).toNatClampNeg) (xs (i + 5).toNatClampNeg))), (4, .int i), (0, .ref b), (1, .ref (ad 0)), (2, .ref (am 0)), (3, .ref (ad 29))]) hx hb d_Law_law_1231 hl (by decide) rfl (fun ls hl => ?_)
  refine lv_aload_n hx hb d_Law_law_1233 rfl (lv_at hl 5 rfl) ?_
  refine x_pure (x_runV (C := "PlanRowsModel") (b := am 0) (As := []) (rest := []) ⟨hx, hb, hml, hown, hts⟩ (c_Mod_thrown l dC dI cI cZ am (g_Mod_reaches z (xs (i + 1).toNatClampNeg) (xs (i + 2).toNatClampNeg) (xs (i + 3).toNatClampNeg) (xs (i + 4).toNatClampNeg) (xs (i + 5).toNatClampNeg)).2 r3.2.1) (cw_Law_96 hts rfl rfl ⟨Nat.le_of_ble_eq_true rfl, Nat.le_of_ble_eq_true rfl⟩) ⟨PC.blind, va_recv hK2 hPR (ci := 9) (q0 := 0) rfl rfl, PC.at hK2 hN hPR⟩ rfl rfl hl.1 rfl (lv_room (Nat.le_of_ble_eq_true rfl)) d_Law_law_1234 hc2) ?_
  refine lv_iload hx hb d_Law_law_1237 (lv_at hl 1 rfl) ?_
  refine lv_icmp_eq (tgt := 1244) hx hb d_Law_law_1239 (by decide) (fun c3 => ?_) (fun c3 => absurd r1 c3)
  refine lv_iload hx hb d_Law_law_1244 (lv_at hl 1 rfl) ?_
  refine lv_if_ne (tgt := 1268) hx hb d_Law_law_1246 (by decide) (fun c0 => ?_) (fun c0 => ?_)
  · refine lv_goto (tgt := 1530) hx hb d_Law_law_1268 (by decide) ?_
    exact kk _ _ _ _ _ _ ⟨hPC, hPR, hS, r3⟩ (lv_sub hl [2, 3, 4, 5, 6] rfl)
  · refine lv_aload_n hx hb d_Law_law_1249 rfl (lv_at hl 6 rfl) ?_
    refine lv_iconst (v := 0) hx hb d_Law_law_1250 (by decide) ?_
    refine va_lald hx hb hK hPC 29 2 rfl rfl in01 d_Law_law_1251 ?_
    refine lv_iload hx hb d_Law_law_1252 (lv_at hl 0 rfl) ?_
    refine lv_if_eq (tgt := 1261) hx hb d_Law_law_1254 (by decide) (fun c1 => ?_) (fun c1 => ?_)
    · refine lv_lconst (v := 0) hx hb d_Law_law_1261 (by decide) ?_
      refine W.lcmp hx hb d_Law_law_1262 ?_
      refine lv_if_eq (tgt := 1268) hx hb d_Law_law_1263 (by decide) (fun c2 => ?_) (fun c2 => ?_)
      · refine lv_goto (tgt := 1530) hx hb d_Law_law_1268 (by decide) ?_
        exact kk _ _ _ _ _ _ ⟨hPC, hPR, hS, r3⟩ (lv_sub hl [2, 3, 4, 5, 6] rfl)
      · exact absurd (oc0_reaches hR (xs (i + 1).toNatClampNeg) (xs (i + 2).toNatClampNeg) (xs (i + 3).toNatClampNeg) (xs (i + 4).toNatClampNeg) (xs (i + 5).toNatClampNeg) fo c0 c1) c2
    · refine lv_lconst (v := 1) hx hb d_Law_law_1257 (by decide) ?_
      refine lv_goto (tgt := 1262) hx hb d_Law_law_1258 (by decide) ?_
      refine W.lcmp hx hb d_Law_law_1262 ?_
      refine lv_if_eq (tgt := 1268) hx hb d_Law_law_1263 (by decide) (fun c2 => ?_) (fun c2 => ?_)
      · refine lv_goto (tgt := 1530) hx hb d_Law_law_1268 (by decide) ?_
        exact kk _ _ _ _ _ _ ⟨hPC, hPR, hS, r3⟩ (lv_sub hl [2, 3, 4, 5, 6] rfl)
      · exact absurd (oc1_reaches hR (xs (i + 1).toNatClampNeg) (xs (i + 2).toNatClampNeg) (xs (i + 3).toNatClampNeg) (xs (i + 4).toNatClampNeg) (xs (i + 5).toNatClampNeg) fo c0 c1) c2
set_option maxHeartbeats 1000000 in
set_option maxRecDepth 100000 in
theorem lc_ladder {p : Program} {e : Env} {s : State} {m : MethodId} {below : List Frame} {meth : Method} {c : Code} {Q : State → Prop} {l : Launch} {b L : Nat} {xs : Nat → Int32} {dC : Nat → ClassId} {dI : Nat → Nat → Nat} {cI cZ cL : ClassId} {ad am : Nat → Nat} (hF : LF p s m meth c b L xs l dC dI cI cZ cL ad am) {i : Int32} (hi : 0 ≤ i.toInt ∧ i.toInt + 6 ≤ L) {H : Heap} {locs : List Loc} {x : ST} {z : RT} {fo : Nat → Int64} {ls : Array Slot} {cells slots : Nat} (hI : LI s dC dI cI cZ cL ad am H locs x z fo) (hl : lv_has ls 7 [(4, .int i), (0, .ref b), (1, .ref (ad 0)), (2, .ref (am 0)), (3, .ref (ad 29))]) (hc : cells + 1 ≤ 1088 ∧ slots + 6 ≤ 10706) (kk : ∀ (H : Heap) (locs : List Loc) (x : ST) (z : RT) (fo : Nat → Int64) (ls : Array Slot), LI s dC dI cI cZ cL ad am H locs x z fo → lv_has ls 7 [(4, .int i), (0, .ref b), (1, .ref (ad 0)), (2, .ref (am 0)), (3, .ref (ad 29))] → W p l e room_1 s m #[Value.ref b] below meth c H locs (cells + 1) (slots + 6) Q (F0 m 1530 ls [])) : W p l e room_1 s m #[Value.ref b] below meth c H locs cells slots Q (F0 m 1271 ls []) := by
  obtain ⟨htr, hx, hb, hret, hml, hown, hts, hX, hbl, hlocks, hLm, hE, hK, hN, hj, hjM, hdis, h30, h21⟩ := hF
  obtain ⟨hPC, hPR, hS, hR⟩ := hI
  have hbw : ∀ w ∈ BW, w.before #[Value.ref b] s = true := fun w h => hts w (List.mem_cons_of_mem _ h)
  have hbA : ¬ s.heap.size ≤ b := Nat.not_le.mpr hbl
  have hK2 : va_K (dC, dI) clsA [(cI, .int), (cZ, .boolean)] s := hK.sub [0, 1] rfl
  have hc2 : cells + 1 + 0 ≤ 1088 ∧ slots + 6 + 0 ≤ 10706 := hc
  refine lv_aload_n hx hb d_Law_law_1271 rfl (lv_at hl 2 rfl) ?_
  refine lv_aload_n hx hb d_Law_law_1272 rfl (lv_at hl 1 rfl) ?_
  refine lv_iload hx hb d_Law_law_1273 (lv_at hl 0 rfl) ?_
  refine lv_iconst (v := 1) hx hb d_Law_law_1275 (by decide) ?_
  refine lv_iadd hx hb d_Law_law_1276 ?_
  refine va_sld hx hb hX hbl hbA hS (lw_in hi hLm 1 (by decide)) d_Law_law_1277 ?_
  refine lv_aload_n hx hb d_Law_law_1278 rfl (lv_at hl 1 rfl) ?_
  refine lv_iload hx hb d_Law_law_1279 (lv_at hl 0 rfl) ?_
  refine lv_iconst (v := 2) hx hb d_Law_law_1281 (by decide) ?_
  refine lv_iadd hx hb d_Law_law_1282 ?_
  refine va_sld hx hb hX hbl hbA hS (lw_in hi hLm 2 (by decide)) d_Law_law_1283 ?_
  refine lv_aload_n hx hb d_Law_law_1284 rfl (lv_at hl 1 rfl) ?_
  refine lv_iload hx hb d_Law_law_1285 (lv_at hl 0 rfl) ?_
  refine lv_iconst (v := 3) hx hb d_Law_law_1287 (by decide) ?_
  refine lv_iadd hx hb d_Law_law_1288 ?_
  refine va_sld hx hb hX hbl hbA hS (lw_in hi hLm 3 (by decide)) d_Law_law_1289 ?_
  refine lv_aload_n hx hb d_Law_law_1290 rfl (lv_at hl 1 rfl) ?_
  refine lv_iload hx hb d_Law_law_1291 (lv_at hl 0 rfl) ?_
  refine lv_iconst (v := 4) hx hb d_Law_law_1293 (by decide) ?_
  refine lv_iadd hx hb d_Law_law_1294 ?_
  refine va_sld hx hb hX hbl hbA hS (lw_in hi hLm 4 (by decide)) d_Law_law_1295 ?_
  refine lv_aload_n hx hb d_Law_law_1296 rfl (lv_at hl 4 rfl) ?_
  refine x_upd (x_runSW (n := 6) (y := y_Law_ladder) (bytes := b_Law_ladder) (maxL := 7) (ret := some .int) (hs := [(0, 14, 17, 13), (0, 14, 21, 15)]) (As := [.ref (ad 0), .int (xs (i + 1).toNatClampNeg), .int (xs (i + 2).toNatClampNeg), .int (xs (i + 3).toNatClampNeg), .int (xs (i + 4).toNatClampNeg), .ref (ad 29)]) (rest := []) ⟨hx, hb, hml, hown, hts⟩ (h_ladder l htr dC dI cI cZ cL ad hj x hR.cin fo H.size (xs (i + 1).toNatClampNeg) (xs (i + 2).toNatClampNeg) (xs (i + 3).toNatClampNeg) (xs (i + 4).toNatClampNeg)) (gBW w_668) List.mem_cons_self rfl rfl ⟨Nat.le_of_ble_eq_true rfl, Nat.le_of_ble_eq_true rfl⟩ (hbw _ w_0) (hbw _ w_666) (hbw _ w_667) (by decide +kernel) ⟨PL.blind, fun U hU hW => ⟨hE.to hS hU hW, PCZ.at hK hN hPC U hU hW⟩⟩ rfl rfl hl.1 rfl (lv_room (Nat.le_of_ble_eq_true rfl)) d_Law_law_1297 hc) hS (fun q _ h => lw_aC hS rfl (fun _ h => h) h30 q h) (fun q h => lw_aC hS rfl (fun _ h => h) h30 q h) (fun t H1 locs ht hW hB hz1 hk1 hS => ?_)
  obtain ⟨hPC1, -, -⟩ := hB
  rw [ht] at hPC1
  have hPR := lw_keepM hPR hdis hk1
  clear hPC
  have hPC := hPC1
  clear hPC1 hk1
  obtain ⟨r1, r2, r3⟩ := R_ladder hR (xs (i + 1).toNatClampNeg) (xs (i + 2).toNatClampNeg) (xs (i + 3).toNatClampNeg) (xs (i + 4).toNatClampNeg)
  refine lv_istore (lv' := [(5, .int (hv_ladder x (xs (i + 1).toNatClampNeg) (xs (i + 2).toNatClampNeg) (xs (i + 3).toNatClampNeg) (xs (i + 4).toNatClampNeg))), (4, .int i), (0, .ref b), (1, .ref (ad 0)), (2, .ref (am 0)), (3, .ref (ad 29))]) hx hb d_Law_law_1300 hl (by decide) rfl (fun ls hl => ?_)
  refine lv_aload_n hx hb d_Law_law_1302 rfl (lv_at hl 4 rfl) ?_
  refine lv_aload_n hx hb d_Law_law_1303 rfl (lv_at hl 2 rfl) ?_
  refine lv_iload hx hb d_Law_law_1304 (lv_at hl 1 rfl) ?_
  refine lv_iconst (v := 1) hx hb d_Law_law_1306 (by decide) ?_
  refine lv_iadd hx hb d_Law_law_1307 ?_
  refine va_sld hx hb hX hbl hbA hS (lw_in hi hLm 1 (by decide)) d_Law_law_1308 ?_
  refine lv_aload_n hx hb d_Law_law_1309 rfl (lv_at hl 2 rfl) ?_
  refine lv_iload hx hb d_Law_law_1310 (lv_at hl 1 rfl) ?_
  refine lv_iconst (v := 2) hx hb d_Law_law_1312 (by decide) ?_
  refine lv_iadd hx hb d_Law_law_1313 ?_
  refine va_sld hx hb hX hbl hbA hS (lw_in hi hLm 2 (by decide)) d_Law_law_1314 ?_
  refine lv_aload_n hx hb d_Law_law_1315 rfl (lv_at hl 2 rfl) ?_
  refine lv_iload hx hb d_Law_law_1316 (lv_at hl 1 rfl) ?_
  refine lv_iconst (v := 3) hx hb d_Law_law_1318 (by decide) ?_
  refine lv_iadd hx hb d_Law_law_1319 ?_
  refine va_sld hx hb hX hbl hbA hS (lw_in hi hLm 3 (by decide)) d_Law_law_1320 ?_
  refine lv_aload_n hx hb d_Law_law_1321 rfl (lv_at hl 2 rfl) ?_
  refine lv_iload hx hb d_Law_law_1322 (lv_at hl 1 rfl) ?_
  refine lv_iconst (v := 4) hx hb d_Law_law_1324 (by decide) ?_
  refine lv_iadd hx hb d_Law_law_1325 ?_
  refine va_sld hx hb hX hbl hbA hS (lw_in hi hLm 4 (by decide)) d_Law_law_1326 ?_
  refine x_upd (x_runV (C := "PlanRowsModel") (b := am 0) (As := [.int (xs (i + 1).toNatClampNeg), .int (xs (i + 2).toNatClampNeg), .int (xs (i + 3).toNatClampNeg), .int (xs (i + 4).toNatClampNeg)]) (rest := []) ⟨hx, hb, hml, hown, hts⟩ (u_Mod_ladder l dC dI cI cZ am hjM z hR.2.1 H1.size (xs (i + 1).toNatClampNeg) (xs (i + 2).toNatClampNeg) (xs (i + 3).toNatClampNeg) (xs (i + 4).toNatClampNeg)) (cw_Law_154 hts rfl rfl ⟨Nat.le_of_ble_eq_true rfl, Nat.le_of_ble_eq_true rfl⟩) ⟨PCZ.blind, va_recv hK2 hPR (ci := 9) (q0 := 0) rfl rfl, PCZ.at hK2 hN hPR⟩ rfl rfl hl.1 rfl (lv_room (Nat.le_of_ble_eq_true rfl)) d_Law_law_1327 hc2) hS (fun q _ h => lw_aC hS rfl (fun _ h => h) h21 q h) (fun q h => lw_aC hS rfl (fun _ h => h) h21 q h) (fun t H2 locs ht hW hB hz2 hk2 hS => ?_)
  obtain ⟨hPR1, -, -⟩ := hB
  rw [ht] at hPR1
  have hPC := lw_keepC hPC hdis hk2
  clear hPR
  have hPR := hPR1
  clear hPR1 hk2
  refine lv_istore (lv' := [(6, .int (g_Mod_ladder z (xs (i + 1).toNatClampNeg) (xs (i + 2).toNatClampNeg) (xs (i + 3).toNatClampNeg) (xs (i + 4).toNatClampNeg)).1), (5, .int (hv_ladder x (xs (i + 1).toNatClampNeg) (xs (i + 2).toNatClampNeg) (xs (i + 3).toNatClampNeg) (xs (i + 4).toNatClampNeg))), (4, .int i), (0, .ref b), (1, .ref (ad 0)), (2, .ref (am 0)), (3, .ref (ad 29))]) hx hb d_Law_law_1330 hl (by decide) rfl (fun ls hl => ?_)
  refine lv_aload_n hx hb d_Law_law_1332 rfl (lv_at hl 5 rfl) ?_
  refine x_pure (x_runV (C := "PlanRowsModel") (b := am 0) (As := []) (rest := []) ⟨hx, hb, hml, hown, hts⟩ (c_Mod_thrown l dC dI cI cZ am (g_Mod_ladder z (xs (i + 1).toNatClampNeg) (xs (i + 2).toNatClampNeg) (xs (i + 3).toNatClampNeg) (xs (i + 4).toNatClampNeg)).2 r3.2.1) (cw_Law_96 hts rfl rfl ⟨Nat.le_of_ble_eq_true rfl, Nat.le_of_ble_eq_true rfl⟩) ⟨PC.blind, va_recv hK2 hPR (ci := 9) (q0 := 0) rfl rfl, PC.at hK2 hN hPR⟩ rfl rfl hl.1 rfl (lv_room (Nat.le_of_ble_eq_true rfl)) d_Law_law_1333 hc2) ?_
  refine lv_iload hx hb d_Law_law_1336 (lv_at hl 1 rfl) ?_
  refine lv_icmp_eq (tgt := 1343) hx hb d_Law_law_1338 (by decide) (fun c3 => ?_) (fun c3 => absurd r1 c3)
  refine lv_iload hx hb d_Law_law_1343 (lv_at hl 1 rfl) ?_
  refine lv_if_ne (tgt := 1360) hx hb d_Law_law_1345 (by decide) (fun c0 => ?_) (fun c0 => ?_)
  · refine lv_goto (tgt := 1530) hx hb d_Law_law_1360 (by decide) ?_
    exact kk _ _ _ _ _ _ ⟨hPC, hPR, hS, r3⟩ (lv_sub hl [2, 3, 4, 5, 6] rfl)
  · refine lv_aload_n hx hb d_Law_law_1348 rfl (lv_at hl 6 rfl) ?_
    refine lv_iconst (v := 0) hx hb d_Law_law_1349 (by decide) ?_
    refine va_lald hx hb hK hPC 29 2 rfl rfl in01 d_Law_law_1350 ?_
    refine lv_iload hx hb d_Law_law_1351 (lv_at hl 0 rfl) ?_
    refine lv_i2l hx hb d_Law_law_1353 rfl ?_
    refine W.lcmp hx hb d_Law_law_1354 ?_
    refine lv_if_eq (tgt := 1360) hx hb d_Law_law_1355 (by decide) (fun c2 => ?_) (fun c2 => ?_)
    · refine lv_goto (tgt := 1530) hx hb d_Law_law_1360 (by decide) ?_
      exact kk _ _ _ _ _ _ ⟨hPC, hPR, hS, r3⟩ (lv_sub hl [2, 3, 4, 5, 6] rfl)
    · exact absurd (oc_ladder hR (xs (i + 1).toNatClampNeg) (xs (i + 2).toNatClampNeg) (xs (i + 3).toNatClampNeg) (xs (i + 4).toNatClampNeg) fo c0) c2
set_option maxHeartbeats 1000000 in
set_option maxRecDepth 100000 in
theorem lc_look {p : Program} {e : Env} {s : State} {m : MethodId} {below : List Frame} {meth : Method} {c : Code} {Q : State → Prop} {l : Launch} {b L : Nat} {xs : Nat → Int32} {dC : Nat → ClassId} {dI : Nat → Nat → Nat} {cI cZ cL : ClassId} {ad am : Nat → Nat} (hF : LF p s m meth c b L xs l dC dI cI cZ cL ad am) {i : Int32} (hi : 0 ≤ i.toInt ∧ i.toInt + 6 ≤ L) {H : Heap} {locs : List Loc} {x : ST} {z : RT} {fo : Nat → Int64} {ls : Array Slot} {cells slots : Nat} (hI : LI s dC dI cI cZ cL ad am H locs x z fo) (hl : lv_has ls 7 [(4, .int i), (0, .ref b), (1, .ref (ad 0)), (2, .ref (am 0)), (3, .ref (ad 29))]) (hc : cells + 1 ≤ 1088 ∧ slots + 6 ≤ 10706) (kk : ∀ (H : Heap) (locs : List Loc) (x : ST) (z : RT) (fo : Nat → Int64) (ls : Array Slot), LI s dC dI cI cZ cL ad am H locs x z fo → lv_has ls 7 [(4, .int i), (0, .ref b), (1, .ref (ad 0)), (2, .ref (am 0)), (3, .ref (ad 29))] → W p l e room_1 s m #[Value.ref b] below meth c H locs (cells + 1) (slots + 6) Q (F0 m 1530 ls [])) : W p l e room_1 s m #[Value.ref b] below meth c H locs cells slots Q (F0 m 1363 ls []) := by
  obtain ⟨htr, hx, hb, hret, hml, hown, hts, hX, hbl, hlocks, hLm, hE, hK, hN, hj, hjM, hdis, h30, h21⟩ := hF
  obtain ⟨hPC, hPR, hS, hR⟩ := hI
  have hbw : ∀ w ∈ BW, w.before #[Value.ref b] s = true := fun w h => hts w (List.mem_cons_of_mem _ h)
  have hbA : ¬ s.heap.size ≤ b := Nat.not_le.mpr hbl
  have hK2 : va_K (dC, dI) clsA [(cI, .int), (cZ, .boolean)] s := hK.sub [0, 1] rfl
  have hc2 : cells + 1 + 0 ≤ 1088 ∧ slots + 6 + 0 ≤ 10706 := hc
  refine lv_aload_n hx hb d_Law_law_1363 rfl (lv_at hl 2 rfl) ?_
  refine lv_aload_n hx hb d_Law_law_1364 rfl (lv_at hl 1 rfl) ?_
  refine lv_iload hx hb d_Law_law_1365 (lv_at hl 0 rfl) ?_
  refine lv_iconst (v := 1) hx hb d_Law_law_1367 (by decide) ?_
  refine lv_iadd hx hb d_Law_law_1368 ?_
  refine va_sld hx hb hX hbl hbA hS (lw_in hi hLm 1 (by decide)) d_Law_law_1369 ?_
  refine lv_aload_n hx hb d_Law_law_1370 rfl (lv_at hl 1 rfl) ?_
  refine lv_iload hx hb d_Law_law_1371 (lv_at hl 0 rfl) ?_
  refine lv_iconst (v := 2) hx hb d_Law_law_1373 (by decide) ?_
  refine lv_iadd hx hb d_Law_law_1374 ?_
  refine va_sld hx hb hX hbl hbA hS (lw_in hi hLm 2 (by decide)) d_Law_law_1375 ?_
  refine x_upd (x_runSW (n := 3) (y := y_Law_look) (bytes := b_Law_look) (maxL := 4) (ret := some .int) (hs := [(0, 6, 9, 15)]) (As := [.ref (ad 0), .int (xs (i + 1).toNatClampNeg), .int (xs (i + 2).toNatClampNeg)]) (rest := []) ⟨hx, hb, hml, hown, hts⟩ (h_look l htr dC dI cI cZ cL ad hj x hR.cin fo H.size (xs (i + 1).toNatClampNeg) (xs (i + 2).toNatClampNeg)) (gBW w_682) List.mem_cons_self rfl rfl ⟨Nat.le_of_ble_eq_true rfl, Nat.le_of_ble_eq_true rfl⟩ (hbw _ w_0) (hbw _ w_680) (hbw _ w_681) (by decide +kernel) ⟨PL.blind, fun U hU hW => ⟨hE.to hS hU hW, PCZ.at hK hN hPC U hU hW⟩⟩ rfl rfl hl.1 rfl (lv_room (Nat.le_of_ble_eq_true rfl)) d_Law_law_1376 hc) hS (fun q _ h => lw_aC hS rfl (fun _ h => h) h30 q h) (fun q h => lw_aC hS rfl (fun _ h => h) h30 q h) (fun t H1 locs ht hW hB hz1 hk1 hS => ?_)
  obtain ⟨hPC1, -, -⟩ := hB
  rw [ht] at hPC1
  have hPR := lw_keepM hPR hdis hk1
  clear hPC
  have hPC := hPC1
  clear hPC1 hk1
  obtain ⟨r1, r2, r3⟩ := R_look hR (xs (i + 1).toNatClampNeg) (xs (i + 2).toNatClampNeg)
  refine lv_istore (lv' := [(5, .int (hv_look x (xs (i + 1).toNatClampNeg) (xs (i + 2).toNatClampNeg))), (4, .int i), (0, .ref b), (1, .ref (ad 0)), (2, .ref (am 0)), (3, .ref (ad 29))]) hx hb d_Law_law_1379 hl (by decide) rfl (fun ls hl => ?_)
  refine lv_aload_n hx hb d_Law_law_1381 rfl (lv_at hl 4 rfl) ?_
  refine lv_aload_n hx hb d_Law_law_1382 rfl (lv_at hl 2 rfl) ?_
  refine lv_iload hx hb d_Law_law_1383 (lv_at hl 1 rfl) ?_
  refine lv_iconst (v := 1) hx hb d_Law_law_1385 (by decide) ?_
  refine lv_iadd hx hb d_Law_law_1386 ?_
  refine va_sld hx hb hX hbl hbA hS (lw_in hi hLm 1 (by decide)) d_Law_law_1387 ?_
  refine lv_aload_n hx hb d_Law_law_1388 rfl (lv_at hl 2 rfl) ?_
  refine lv_iload hx hb d_Law_law_1389 (lv_at hl 1 rfl) ?_
  refine lv_iconst (v := 2) hx hb d_Law_law_1391 (by decide) ?_
  refine lv_iadd hx hb d_Law_law_1392 ?_
  refine va_sld hx hb hX hbl hbA hS (lw_in hi hLm 2 (by decide)) d_Law_law_1393 ?_
  refine x_upd (x_runV (C := "PlanRowsModel") (b := am 0) (As := [.int (xs (i + 1).toNatClampNeg), .int (xs (i + 2).toNatClampNeg)]) (rest := []) ⟨hx, hb, hml, hown, hts⟩ (u_Mod_look l dC dI cI cZ am hjM z hR.2.1 H1.size (xs (i + 1).toNatClampNeg) (xs (i + 2).toNatClampNeg)) (cw_Law_157 hts rfl rfl ⟨Nat.le_of_ble_eq_true rfl, Nat.le_of_ble_eq_true rfl⟩) ⟨PCZ.blind, va_recv hK2 hPR (ci := 9) (q0 := 0) rfl rfl, PCZ.at hK2 hN hPR⟩ rfl rfl hl.1 rfl (lv_room (Nat.le_of_ble_eq_true rfl)) d_Law_law_1394 hc2) hS (fun q _ h => lw_aC hS rfl (fun _ h => h) h21 q h) (fun q h => lw_aC hS rfl (fun _ h => h) h21 q h) (fun t H2 locs ht hW hB hz2 hk2 hS => ?_)
  obtain ⟨hPR1, -, -⟩ := hB
  rw [ht] at hPR1
  have hPC := lw_keepC hPC hdis hk2
  clear hPR
  have hPR := hPR1
  clear hPR1 hk2
  refine lv_aload_n hx hb d_Law_law_1397 rfl (lv_at hl 4 rfl) ?_
  refine x_pure (x_runV (C := "PlanRowsModel") (b := am 0) (As := []) (rest := []) ⟨hx, hb, hml, hown, hts⟩ (c_Mod_thrown l dC dI cI cZ am (g_Mod_look z (xs (i + 1).toNatClampNeg) (xs (i + 2).toNatClampNeg)).2 r3.2.1) (cw_Law_96 hts rfl rfl ⟨Nat.le_of_ble_eq_true rfl, Nat.le_of_ble_eq_true rfl⟩) ⟨PC.blind, va_recv hK2 hPR (ci := 9) (q0 := 0) rfl rfl, PC.at hK2 hN hPR⟩ rfl rfl hl.1 rfl (lv_room (Nat.le_of_ble_eq_true rfl)) d_Law_law_1398 hc2) ?_
  refine lv_iload hx hb d_Law_law_1401 (lv_at hl 0 rfl) ?_
  refine lv_icmp_eq (tgt := 1408) hx hb d_Law_law_1403 (by decide) (fun c3 => ?_) (fun c3 => absurd r1 c3)
  refine lv_goto (tgt := 1530) hx hb d_Law_law_1408 (by decide) ?_
  exact kk _ _ _ _ _ _ ⟨hPC, hPR, hS, r3⟩ (lv_sub hl [1, 2, 3, 4, 5] rfl)
set_option maxHeartbeats 1000000 in
set_option maxRecDepth 100000 in
theorem lc_old {p : Program} {e : Env} {s : State} {m : MethodId} {below : List Frame} {meth : Method} {c : Code} {Q : State → Prop} {l : Launch} {b L : Nat} {xs : Nat → Int32} {dC : Nat → ClassId} {dI : Nat → Nat → Nat} {cI cZ cL : ClassId} {ad am : Nat → Nat} (hF : LF p s m meth c b L xs l dC dI cI cZ cL ad am) {i : Int32} (hi : 0 ≤ i.toInt ∧ i.toInt + 6 ≤ L) {H : Heap} {locs : List Loc} {x : ST} {z : RT} {fo : Nat → Int64} {ls : Array Slot} {cells slots : Nat} (hI : LI s dC dI cI cZ cL ad am H locs x z fo) (hl : lv_has ls 7 [(4, .int i), (0, .ref b), (1, .ref (ad 0)), (2, .ref (am 0)), (3, .ref (ad 29))]) (hc : cells + 1 ≤ 1088 ∧ slots + 6 ≤ 10706) (kk : ∀ (H : Heap) (locs : List Loc) (x : ST) (z : RT) (fo : Nat → Int64) (ls : Array Slot), LI s dC dI cI cZ cL ad am H locs x z fo → lv_has ls 7 [(4, .int i), (0, .ref b), (1, .ref (ad 0)), (2, .ref (am 0)), (3, .ref (ad 29))] → W p l e room_1 s m #[Value.ref b] below meth c H locs (cells + 1) (slots + 6) Q (F0 m 1530 ls [])) : W p l e room_1 s m #[Value.ref b] below meth c H locs cells slots Q (F0 m 1411 ls []) := by
  obtain ⟨htr, hx, hb, hret, hml, hown, hts, hX, hbl, hlocks, hLm, hE, hK, hN, hj, hjM, hdis, h30, h21⟩ := hF
  obtain ⟨hPC, hPR, hS, hR⟩ := hI
  have hbw : ∀ w ∈ BW, w.before #[Value.ref b] s = true := fun w h => hts w (List.mem_cons_of_mem _ h)
  have hbA : ¬ s.heap.size ≤ b := Nat.not_le.mpr hbl
  have hK2 : va_K (dC, dI) clsA [(cI, .int), (cZ, .boolean)] s := hK.sub [0, 1] rfl
  have hc2 : cells + 1 + 0 ≤ 1088 ∧ slots + 6 + 0 ≤ 10706 := hc
  refine lv_aload_n hx hb d_Law_law_1411 rfl (lv_at hl 2 rfl) ?_
  refine lv_aload_n hx hb d_Law_law_1412 rfl (lv_at hl 1 rfl) ?_
  refine lv_iload hx hb d_Law_law_1413 (lv_at hl 0 rfl) ?_
  refine lv_iconst (v := 1) hx hb d_Law_law_1415 (by decide) ?_
  refine lv_iadd hx hb d_Law_law_1416 ?_
  refine va_sld hx hb hX hbl hbA hS (lw_in hi hLm 1 (by decide)) d_Law_law_1417 ?_
  refine lv_aload_n hx hb d_Law_law_1418 rfl (lv_at hl 4 rfl) ?_
  refine x_upd (x_runSW (n := 3) (y := y_Law_old) (bytes := b_Law_old) (maxL := 4) (ret := some .int) (hs := [(0, 16, 19, 15)]) (As := [.ref (ad 0), .int (xs (i + 1).toNatClampNeg), .ref (ad 29)]) (rest := []) ⟨hx, hb, hml, hown, hts⟩ (h_old l htr dC dI cI cZ cL ad hj x hR.cin fo H.size (xs (i + 1).toNatClampNeg)) (gBW w_690) List.mem_cons_self rfl rfl ⟨Nat.le_of_ble_eq_true rfl, Nat.le_of_ble_eq_true rfl⟩ (hbw _ w_0) (hbw _ w_688) (hbw _ w_689) (by decide +kernel) ⟨PL.blind, fun U hU hW => ⟨hE.to hS hU hW, PCZ.at hK hN hPC U hU hW⟩⟩ rfl rfl hl.1 rfl (lv_room (Nat.le_of_ble_eq_true rfl)) d_Law_law_1419 hc) hS (fun q _ h => lw_aC hS rfl (fun _ h => h) h30 q h) (fun q h => lw_aC hS rfl (fun _ h => h) h30 q h) (fun t H1 locs ht hW hB hz1 hk1 hS => ?_)
  obtain ⟨hPC1, -, -⟩ := hB
  rw [ht] at hPC1
  have hPR := lw_keepM hPR hdis hk1
  clear hPC
  have hPC := hPC1
  clear hPC1 hk1
  obtain ⟨r1, r2, r3⟩ := R_old hR (xs (i + 1).toNatClampNeg)
  refine lv_istore (lv' := [(5, .int (hv_old x (xs (i + 1).toNatClampNeg))), (4, .int i), (0, .ref b), (1, .ref (ad 0)), (2, .ref (am 0)), (3, .ref (ad 29))]) hx hb d_Law_law_1422 hl (by decide) rfl (fun ls hl => ?_)
  refine lv_aload_n hx hb d_Law_law_1424 rfl (lv_at hl 4 rfl) ?_
  refine lv_aload_n hx hb d_Law_law_1425 rfl (lv_at hl 2 rfl) ?_
  refine lv_iload hx hb d_Law_law_1426 (lv_at hl 1 rfl) ?_
  refine lv_iconst (v := 1) hx hb d_Law_law_1428 (by decide) ?_
  refine lv_iadd hx hb d_Law_law_1429 ?_
  refine va_sld hx hb hX hbl hbA hS (lw_in hi hLm 1 (by decide)) d_Law_law_1430 ?_
  refine x_upd (x_runV (C := "PlanRowsModel") (b := am 0) (As := [.int (xs (i + 1).toNatClampNeg)]) (rest := []) ⟨hx, hb, hml, hown, hts⟩ (u_Mod_old l dC dI cI cZ am hjM z hR.2.1 H1.size (xs (i + 1).toNatClampNeg)) (cw_Law_160 hts rfl rfl ⟨Nat.le_of_ble_eq_true rfl, Nat.le_of_ble_eq_true rfl⟩) ⟨PCZ.blind, va_recv hK2 hPR (ci := 9) (q0 := 0) rfl rfl, PCZ.at hK2 hN hPR⟩ rfl rfl hl.1 rfl (lv_room (Nat.le_of_ble_eq_true rfl)) d_Law_law_1431 hc2) hS (fun q _ h => lw_aC hS rfl (fun _ h => h) h21 q h) (fun q h => lw_aC hS rfl (fun _ h => h) h21 q h) (fun t H2 locs ht hW hB hz2 hk2 hS => ?_)
  obtain ⟨hPR1, -, -⟩ := hB
  rw [ht] at hPR1
  have hPC := lw_keepC hPC hdis hk2
  clear hPR
  have hPR := hPR1
  clear hPR1 hk2
  refine lv_istore (lv' := [(6, .int (g_Mod_old z (xs (i + 1).toNatClampNeg)).1), (5, .int (hv_old x (xs (i + 1).toNatClampNeg))), (4, .int i), (0, .ref b), (1, .ref (ad 0)), (2, .ref (am 0)), (3, .ref (ad 29))]) hx hb d_Law_law_1434 hl (by decide) rfl (fun ls hl => ?_)
  refine lv_aload_n hx hb d_Law_law_1436 rfl (lv_at hl 5 rfl) ?_
  refine x_pure (x_runV (C := "PlanRowsModel") (b := am 0) (As := []) (rest := []) ⟨hx, hb, hml, hown, hts⟩ (c_Mod_thrown l dC dI cI cZ am (g_Mod_old z (xs (i + 1).toNatClampNeg)).2 r3.2.1) (cw_Law_96 hts rfl rfl ⟨Nat.le_of_ble_eq_true rfl, Nat.le_of_ble_eq_true rfl⟩) ⟨PC.blind, va_recv hK2 hPR (ci := 9) (q0 := 0) rfl rfl, PC.at hK2 hN hPR⟩ rfl rfl hl.1 rfl (lv_room (Nat.le_of_ble_eq_true rfl)) d_Law_law_1437 hc2) ?_
  refine lv_iload hx hb d_Law_law_1440 (lv_at hl 1 rfl) ?_
  refine lv_icmp_eq (tgt := 1447) hx hb d_Law_law_1442 (by decide) (fun c3 => ?_) (fun c3 => absurd r1 c3)
  refine lv_iload hx hb d_Law_law_1447 (lv_at hl 1 rfl) ?_
  refine lv_if_ne (tgt := 1471) hx hb d_Law_law_1449 (by decide) (fun c0 => ?_) (fun c0 => ?_)
  · refine lv_goto (tgt := 1530) hx hb d_Law_law_1471 (by decide) ?_
    exact kk _ _ _ _ _ _ ⟨hPC, hPR, hS, r3⟩ (lv_sub hl [2, 3, 4, 5, 6] rfl)
  · refine lv_aload_n hx hb d_Law_law_1452 rfl (lv_at hl 6 rfl) ?_
    refine lv_iconst (v := 0) hx hb d_Law_law_1453 (by decide) ?_
    refine va_lald hx hb hK hPC 29 2 rfl rfl in01 d_Law_law_1454 ?_
    refine lv_iload hx hb d_Law_law_1455 (lv_at hl 0 rfl) ?_
    refine lv_if_eq (tgt := 1464) hx hb d_Law_law_1457 (by decide) (fun c1 => ?_) (fun c1 => ?_)
    · refine lv_lconst (v := 0) hx hb d_Law_law_1464 (by decide) ?_
      refine W.lcmp hx hb d_Law_law_1465 ?_
      refine lv_if_eq (tgt := 1471) hx hb d_Law_law_1466 (by decide) (fun c2 => ?_) (fun c2 => ?_)
      · refine lv_goto (tgt := 1530) hx hb d_Law_law_1471 (by decide) ?_
        exact kk _ _ _ _ _ _ ⟨hPC, hPR, hS, r3⟩ (lv_sub hl [2, 3, 4, 5, 6] rfl)
      · exact absurd (oc0_old hR (xs (i + 1).toNatClampNeg) fo c0 c1) c2
    · refine lv_lconst (v := 1) hx hb d_Law_law_1460 (by decide) ?_
      refine lv_goto (tgt := 1465) hx hb d_Law_law_1461 (by decide) ?_
      refine W.lcmp hx hb d_Law_law_1465 ?_
      refine lv_if_eq (tgt := 1471) hx hb d_Law_law_1466 (by decide) (fun c2 => ?_) (fun c2 => ?_)
      · refine lv_goto (tgt := 1530) hx hb d_Law_law_1471 (by decide) ?_
        exact kk _ _ _ _ _ _ ⟨hPC, hPR, hS, r3⟩ (lv_sub hl [2, 3, 4, 5, 6] rfl)
      · exact absurd (oc1_old hR (xs (i + 1).toNatClampNeg) fo c0 c1) c2
set_option maxHeartbeats 1000000 in
set_option maxRecDepth 100000 in
theorem lc_count {p : Program} {e : Env} {s : State} {m : MethodId} {below : List Frame} {meth : Method} {c : Code} {Q : State → Prop} {l : Launch} {b L : Nat} {xs : Nat → Int32} {dC : Nat → ClassId} {dI : Nat → Nat → Nat} {cI cZ cL : ClassId} {ad am : Nat → Nat} (hF : LF p s m meth c b L xs l dC dI cI cZ cL ad am) {i : Int32} (hi : 0 ≤ i.toInt ∧ i.toInt + 6 ≤ L) {H : Heap} {locs : List Loc} {x : ST} {z : RT} {fo : Nat → Int64} {ls : Array Slot} {cells slots : Nat} (hI : LI s dC dI cI cZ cL ad am H locs x z fo) (hl : lv_has ls 7 [(4, .int i), (0, .ref b), (1, .ref (ad 0)), (2, .ref (am 0)), (3, .ref (ad 29))]) (hc : cells + 1 ≤ 1088 ∧ slots + 6 ≤ 10706) (kk : ∀ (H : Heap) (locs : List Loc) (x : ST) (z : RT) (fo : Nat → Int64) (ls : Array Slot), LI s dC dI cI cZ cL ad am H locs x z fo → lv_has ls 7 [(4, .int i), (0, .ref b), (1, .ref (ad 0)), (2, .ref (am 0)), (3, .ref (ad 29))] → W p l e room_1 s m #[Value.ref b] below meth c H locs (cells + 1) (slots + 6) Q (F0 m 1530 ls [])) : W p l e room_1 s m #[Value.ref b] below meth c H locs cells slots Q (F0 m 1474 ls []) := by
  obtain ⟨htr, hx, hb, hret, hml, hown, hts, hX, hbl, hlocks, hLm, hE, hK, hN, hj, hjM, hdis, h30, h21⟩ := hF
  obtain ⟨hPC, hPR, hS, hR⟩ := hI
  have hbw : ∀ w ∈ BW, w.before #[Value.ref b] s = true := fun w h => hts w (List.mem_cons_of_mem _ h)
  have hbA : ¬ s.heap.size ≤ b := Nat.not_le.mpr hbl
  have hK2 : va_K (dC, dI) clsA [(cI, .int), (cZ, .boolean)] s := hK.sub [0, 1] rfl
  have hc2 : cells + 1 + 0 ≤ 1088 ∧ slots + 6 + 0 ≤ 10706 := hc
  refine lv_aload_n hx hb d_Law_law_1474 rfl (lv_at hl 2 rfl) ?_
  refine lv_aload_n hx hb d_Law_law_1475 rfl (lv_at hl 1 rfl) ?_
  refine lv_iload hx hb d_Law_law_1476 (lv_at hl 0 rfl) ?_
  refine lv_iconst (v := 1) hx hb d_Law_law_1478 (by decide) ?_
  refine lv_iadd hx hb d_Law_law_1479 ?_
  refine va_sld hx hb hX hbl hbA hS (lw_in hi hLm 1 (by decide)) d_Law_law_1480 ?_
  refine lv_aload_n hx hb d_Law_law_1481 rfl (lv_at hl 4 rfl) ?_
  refine x_upd (x_runSW (n := 3) (y := y_Law_count) (bytes := b_Law_count) (maxL := 4) (ret := some .int) (hs := [(0, 9, 12, 13)]) (As := [.ref (ad 0), .int (xs (i + 1).toNatClampNeg), .ref (ad 29)]) (rest := []) ⟨hx, hb, hml, hown, hts⟩ (h_count l htr dC dI cI cZ cL ad hj x hR.cin fo H.size (xs (i + 1).toNatClampNeg)) (gBW w_697) List.mem_cons_self rfl rfl ⟨Nat.le_of_ble_eq_true rfl, Nat.le_of_ble_eq_true rfl⟩ (hbw _ w_0) (hbw _ w_695) (hbw _ w_696) (by decide +kernel) ⟨PL.blind, fun U hU hW => ⟨hE.to hS hU hW, PCZ.at hK hN hPC U hU hW⟩⟩ rfl rfl hl.1 rfl (lv_room (Nat.le_of_ble_eq_true rfl)) d_Law_law_1482 hc) hS (fun q _ h => lw_aC hS rfl (fun _ h => h) h30 q h) (fun q h => lw_aC hS rfl (fun _ h => h) h30 q h) (fun t H1 locs ht hW hB hz1 hk1 hS => ?_)
  obtain ⟨hPC1, -, -⟩ := hB
  rw [ht] at hPC1
  have hPR := lw_keepM hPR hdis hk1
  clear hPC
  have hPC := hPC1
  clear hPC1 hk1
  obtain ⟨r1, r2, r3⟩ := R_count hR (xs (i + 1).toNatClampNeg)
  refine lv_istore (lv' := [(5, .int (hv_count x (xs (i + 1).toNatClampNeg))), (4, .int i), (0, .ref b), (1, .ref (ad 0)), (2, .ref (am 0)), (3, .ref (ad 29))]) hx hb d_Law_law_1485 hl (by decide) rfl (fun ls hl => ?_)
  refine lv_aload_n hx hb d_Law_law_1487 rfl (lv_at hl 4 rfl) ?_
  refine lv_aload_n hx hb d_Law_law_1488 rfl (lv_at hl 2 rfl) ?_
  refine lv_iload hx hb d_Law_law_1489 (lv_at hl 1 rfl) ?_
  refine lv_iconst (v := 1) hx hb d_Law_law_1491 (by decide) ?_
  refine lv_iadd hx hb d_Law_law_1492 ?_
  refine va_sld hx hb hX hbl hbA hS (lw_in hi hLm 1 (by decide)) d_Law_law_1493 ?_
  refine x_upd (x_runV (C := "PlanRowsModel") (b := am 0) (As := [.int (xs (i + 1).toNatClampNeg)]) (rest := []) ⟨hx, hb, hml, hown, hts⟩ (u_Mod_count l dC dI cI cZ am hjM z hR.2.1 H1.size (xs (i + 1).toNatClampNeg)) (cw_Law_163 hts rfl rfl ⟨Nat.le_of_ble_eq_true rfl, Nat.le_of_ble_eq_true rfl⟩) ⟨PCZ.blind, va_recv hK2 hPR (ci := 9) (q0 := 0) rfl rfl, PCZ.at hK2 hN hPR⟩ rfl rfl hl.1 rfl (lv_room (Nat.le_of_ble_eq_true rfl)) d_Law_law_1494 hc2) hS (fun q _ h => lw_aC hS rfl (fun _ h => h) h21 q h) (fun q h => lw_aC hS rfl (fun _ h => h) h21 q h) (fun t H2 locs ht hW hB hz2 hk2 hS => ?_)
  obtain ⟨hPR1, -, -⟩ := hB
  rw [ht] at hPR1
  have hPC := lw_keepC hPC hdis hk2
  clear hPR
  have hPR := hPR1
  clear hPR1 hk2
  refine lv_istore (lv' := [(6, .int (g_Mod_count z (xs (i + 1).toNatClampNeg)).1), (5, .int (hv_count x (xs (i + 1).toNatClampNeg))), (4, .int i), (0, .ref b), (1, .ref (ad 0)), (2, .ref (am 0)), (3, .ref (ad 29))]) hx hb d_Law_law_1497 hl (by decide) rfl (fun ls hl => ?_)
  refine lv_aload_n hx hb d_Law_law_1499 rfl (lv_at hl 5 rfl) ?_
  refine x_pure (x_runV (C := "PlanRowsModel") (b := am 0) (As := []) (rest := []) ⟨hx, hb, hml, hown, hts⟩ (c_Mod_thrown l dC dI cI cZ am (g_Mod_count z (xs (i + 1).toNatClampNeg)).2 r3.2.1) (cw_Law_96 hts rfl rfl ⟨Nat.le_of_ble_eq_true rfl, Nat.le_of_ble_eq_true rfl⟩) ⟨PC.blind, va_recv hK2 hPR (ci := 9) (q0 := 0) rfl rfl, PC.at hK2 hN hPR⟩ rfl rfl hl.1 rfl (lv_room (Nat.le_of_ble_eq_true rfl)) d_Law_law_1500 hc2) ?_
  refine lv_iload hx hb d_Law_law_1503 (lv_at hl 1 rfl) ?_
  refine lv_icmp_eq (tgt := 1510) hx hb d_Law_law_1505 (by decide) (fun c3 => ?_) (fun c3 => absurd r1 c3)
  refine lv_iload hx hb d_Law_law_1510 (lv_at hl 1 rfl) ?_
  refine lv_if_ne (tgt := 1527) hx hb d_Law_law_1512 (by decide) (fun c0 => ?_) (fun c0 => ?_)
  · refine lv_goto (tgt := 1530) hx hb d_Law_law_1527 (by decide) ?_
    exact kk _ _ _ _ _ _ ⟨hPC, hPR, hS, r3⟩ (lv_sub hl [2, 3, 4, 5, 6] rfl)
  · refine lv_aload_n hx hb d_Law_law_1515 rfl (lv_at hl 6 rfl) ?_
    refine lv_iconst (v := 0) hx hb d_Law_law_1516 (by decide) ?_
    refine va_lald hx hb hK hPC 29 2 rfl rfl in01 d_Law_law_1517 ?_
    refine lv_iload hx hb d_Law_law_1518 (lv_at hl 0 rfl) ?_
    refine lv_i2l hx hb d_Law_law_1520 rfl ?_
    refine W.lcmp hx hb d_Law_law_1521 ?_
    refine lv_if_eq (tgt := 1527) hx hb d_Law_law_1522 (by decide) (fun c2 => ?_) (fun c2 => ?_)
    · refine lv_goto (tgt := 1530) hx hb d_Law_law_1527 (by decide) ?_
      exact kk _ _ _ _ _ _ ⟨hPC, hPR, hS, r3⟩ (lv_sub hl [2, 3, 4, 5, 6] rfl)
    · exact absurd (oc_count hR (xs (i + 1).toNatClampNeg) fo c0) c2
