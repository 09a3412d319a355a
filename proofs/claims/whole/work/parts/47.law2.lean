set_option maxHeartbeats 1000000 in
set_option maxRecDepth 100000 in
theorem lc_room {p : Program} {e : Env} {s : State} {m : MethodId} {below : List Frame} {meth : Method} {c : Code} {Q : State → Prop} {l : Launch} {b L : Nat} {xs : Nat → Int32} {dC : Nat → ClassId} {dI : Nat → Nat → Nat} {cI cZ cL : ClassId} {ad am : Nat → Nat} (hF : LF p s m meth c b L xs l dC dI cI cZ cL ad am) {i : Int32} (hi : 0 ≤ i.toInt ∧ i.toInt + 6 ≤ L) {H : Heap} {locs : List Loc} {x : ST} {z : RT} {fo : Nat → Int64} {ls : Array Slot} {cells slots : Nat} (hI : LI s dC dI cI cZ cL ad am H locs x z fo) (hl : lv_has ls 7 [(4, .int i), (0, .ref b), (1, .ref (ad 0)), (2, .ref (am 0)), (3, .ref (ad 29))]) (hc : cells + 1 ≤ 1088 ∧ slots + 6 ≤ 10706) (kk : ∀ (H : Heap) (locs : List Loc) (x : ST) (z : RT) (fo : Nat → Int64) (ls : Array Slot), LI s dC dI cI cZ cL ad am H locs x z fo → lv_has ls 7 [(4, .int i), (0, .ref b), (1, .ref (ad 0)), (2, .ref (am 0)), (3, .ref (ad 29))] → W p l e room_1 s m #[Value.ref b] below meth c H locs (cells + 1) (slots + 6) Q (F0 m 1530 ls [])) : W p l e room_1 s m #[Value.ref b] below meth c H locs cells slots Q (F0 m 136 ls []) := by
  obtain ⟨htr, hx, hb, hret, hml, hown, hts, hX, hbl, hlocks, hLm, hE, hK, hN, hj, hjM, hdis, h30, h21⟩ := hF
  obtain ⟨hPC, hPR, hS, hR⟩ := hI
  have hbw : ∀ w ∈ BW, w.before #[Value.ref b] s = true := fun w h => hts w (List.mem_cons_of_mem _ h)
  have hbA : ¬ s.heap.size ≤ b := Nat.not_le.mpr hbl
  have hK2 : va_K (dC, dI) clsA [(cI, .int), (cZ, .boolean)] s := hK.sub [0, 1] rfl
  have hc2 : cells + 1 + 0 ≤ 1088 ∧ slots + 6 + 0 ≤ 10706 := hc
  refine lv_aload_n hx hb d_Law_law_136 rfl (lv_at hl 2 rfl) ?_
  refine lv_aload_n hx hb d_Law_law_137 rfl (lv_at hl 1 rfl) ?_
  refine lv_iload hx hb d_Law_law_138 (lv_at hl 0 rfl) ?_
  refine lv_iconst (v := 1) hx hb d_Law_law_140 (by decide) ?_
  refine lv_iadd hx hb d_Law_law_141 ?_
  refine va_sld hx hb hX hbl hbA hS (lw_in hi hLm 1 (by decide)) d_Law_law_142 ?_
  refine lv_aload_n hx hb d_Law_law_143 rfl (lv_at hl 1 rfl) ?_
  refine lv_iload hx hb d_Law_law_144 (lv_at hl 0 rfl) ?_
  refine lv_iconst (v := 2) hx hb d_Law_law_146 (by decide) ?_
  refine lv_iadd hx hb d_Law_law_147 ?_
  refine va_sld hx hb hX hbl hbA hS (lw_in hi hLm 2 (by decide)) d_Law_law_148 ?_
  refine lv_aload_n hx hb d_Law_law_149 rfl (lv_at hl 4 rfl) ?_
  refine x_upd (x_runSW (n := 4) (y := y_Law_room) (bytes := b_Law_room) (maxL := 5) (ret := some .int) (hs := [(0, 10, 13, 13), (0, 10, 17, 15), (0, 10, 21, 17)]) (As := [.ref (ad 0), .int (xs (i + 1).toNatClampNeg), .int (xs (i + 2).toNatClampNeg), .ref (ad 29)]) (rest := []) ⟨hx, hb, hml, hown, hts⟩ (h_room l htr dC dI cI cZ cL ad hj x hR.cin fo H.size (xs (i + 1).toNatClampNeg) (xs (i + 2).toNatClampNeg)) (gBW w_225) List.mem_cons_self rfl rfl ⟨Nat.le_of_ble_eq_true rfl, Nat.le_of_ble_eq_true rfl⟩ (hbw _ w_0) (hbw _ w_223) (hbw _ w_224) (by decide +kernel) ⟨PL.blind, fun U hU hW => ⟨hE.to hS hU hW, PCZ.at hK hN hPC U hU hW⟩⟩ rfl rfl hl.1 rfl (lv_room (Nat.le_of_ble_eq_true rfl)) d_Law_law_150 hc) hS (fun q _ h => lw_aC hS rfl (fun _ h => h) h30 q h) (fun q h => lw_aC hS rfl (fun _ h => h) h30 q h) (fun t H1 locs ht hW hB hz1 hk1 hS => ?_)
  obtain ⟨hPC1, -, -⟩ := hB
  rw [ht] at hPC1
  have hPR := lw_keepM hPR hdis hk1
  clear hPC
  have hPC := hPC1
  clear hPC1 hk1
  obtain ⟨r1, r2, r3⟩ := R_room hR (xs (i + 1).toNatClampNeg) (xs (i + 2).toNatClampNeg)
  refine lv_istore (lv' := [(5, .int (hv_room x (xs (i + 1).toNatClampNeg) (xs (i + 2).toNatClampNeg))), (4, .int i), (0, .ref b), (1, .ref (ad 0)), (2, .ref (am 0)), (3, .ref (ad 29))]) hx hb d_Law_law_153 hl (by decide) rfl (fun ls hl => ?_)
  refine lv_aload_n hx hb d_Law_law_155 rfl (lv_at hl 4 rfl) ?_
  refine lv_aload_n hx hb d_Law_law_156 rfl (lv_at hl 2 rfl) ?_
  refine lv_iload hx hb d_Law_law_157 (lv_at hl 1 rfl) ?_
  refine lv_iconst (v := 1) hx hb d_Law_law_159 (by decide) ?_
  refine lv_iadd hx hb d_Law_law_160 ?_
  refine va_sld hx hb hX hbl hbA hS (lw_in hi hLm 1 (by decide)) d_Law_law_161 ?_
  refine lv_aload_n hx hb d_Law_law_162 rfl (lv_at hl 2 rfl) ?_
  refine lv_iload hx hb d_Law_law_163 (lv_at hl 1 rfl) ?_
  refine lv_iconst (v := 2) hx hb d_Law_law_165 (by decide) ?_
  refine lv_iadd hx hb d_Law_law_166 ?_
  refine va_sld hx hb hX hbl hbA hS (lw_in hi hLm 2 (by decide)) d_Law_law_167 ?_
  refine x_upd (x_runV (C := "PlanRowsModel") (b := am 0) (As := [.int (xs (i + 1).toNatClampNeg), .int (xs (i + 2).toNatClampNeg)]) (rest := []) ⟨hx, hb, hml, hown, hts⟩ (u_Mod_room l dC dI cI cZ am hjM z hR.2.1 H1.size (xs (i + 1).toNatClampNeg) (xs (i + 2).toNatClampNeg)) (cw_Law_95 hts rfl rfl ⟨Nat.le_of_ble_eq_true rfl, Nat.le_of_ble_eq_true rfl⟩) ⟨PCZ.blind, va_recv hK2 hPR (ci := 9) (q0 := 0) rfl rfl, PCZ.at hK2 hN hPR⟩ rfl rfl hl.1 rfl (lv_room (Nat.le_of_ble_eq_true rfl)) d_Law_law_168 hc2) hS (fun q _ h => lw_aC hS rfl (fun _ h => h) h21 q h) (fun q h => lw_aC hS rfl (fun _ h => h) h21 q h) (fun t H2 locs ht hW hB hz2 hk2 hS => ?_)
  obtain ⟨hPR1, -, -⟩ := hB
  rw [ht] at hPR1
  have hPC := lw_keepC hPC hdis hk2
  clear hPR
  have hPR := hPR1
  clear hPR1 hk2
  refine lv_istore (lv' := [(6, .int (g_Mod_room z (xs (i + 1).toNatClampNeg) (xs (i + 2).toNatClampNeg)).1), (5, .int (hv_room x (xs (i + 1).toNatClampNeg) (xs (i + 2).toNatClampNeg))), (4, .int i), (0, .ref b), (1, .ref (ad 0)), (2, .ref (am 0)), (3, .ref (ad 29))]) hx hb d_Law_law_171 hl (by decide) rfl (fun ls hl => ?_)
  refine lv_aload_n hx hb d_Law_law_173 rfl (lv_at hl 5 rfl) ?_
  refine x_pure (x_runV (C := "PlanRowsModel") (b := am 0) (As := []) (rest := []) ⟨hx, hb, hml, hown, hts⟩ (c_Mod_thrown l dC dI cI cZ am (g_Mod_room z (xs (i + 1).toNatClampNeg) (xs (i + 2).toNatClampNeg)).2 r3.2.1) (cw_Law_96 hts rfl rfl ⟨Nat.le_of_ble_eq_true rfl, Nat.le_of_ble_eq_true rfl⟩) ⟨PC.blind, va_recv hK2 hPR (ci := 9) (q0 := 0) rfl rfl, PC.at hK2 hN hPR⟩ rfl rfl hl.1 rfl (lv_room (Nat.le_of_ble_eq_true rfl)) d_Law_law_174 hc2) ?_
  refine lv_iload hx hb d_Law_law_177 (lv_at hl 1 rfl) ?_
  refine lv_icmp_eq (tgt := 184) hx hb d_Law_law_179 (by decide) (fun c3 => ?_) (fun c3 => absurd r1 c3)
  refine lv_iload hx hb d_Law_law_184 (lv_at hl 1 rfl) ?_
  refine lv_if_ne (tgt := 201) hx hb d_Law_law_186 (by decide) (fun c0 => ?_) (fun c0 => ?_)
  · refine lv_goto (tgt := 1530) hx hb d_Law_law_201 (by decide) ?_
    exact kk _ _ _ _ _ _ ⟨hPC, hPR, hS, r3⟩ (lv_sub hl [2, 3, 4, 5, 6] rfl)
  · refine lv_aload_n hx hb d_Law_law_189 rfl (lv_at hl 6 rfl) ?_
    refine lv_iconst (v := 0) hx hb d_Law_law_190 (by decide) ?_
    refine va_lald hx hb hK hPC 29 2 rfl rfl in01 d_Law_law_191 ?_
    refine lv_iload hx hb d_Law_law_192 (lv_at hl 0 rfl) ?_
    refine lv_i2l hx hb d_Law_law_194 rfl ?_
    refine W.lcmp hx hb d_Law_law_195 ?_
    refine lv_if_eq (tgt := 201) hx hb d_Law_law_196 (by decide) (fun c2 => ?_) (fun c2 => ?_)
    · refine lv_goto (tgt := 1530) hx hb d_Law_law_201 (by decide) ?_
      exact kk _ _ _ _ _ _ ⟨hPC, hPR, hS, r3⟩ (lv_sub hl [2, 3, 4, 5, 6] rfl)
    · exact absurd (oc_room hR (xs (i + 1).toNatClampNeg) (xs (i + 2).toNatClampNeg) fo c0) c2
set_option maxHeartbeats 1000000 in
set_option maxRecDepth 100000 in
theorem lc_door {p : Program} {e : Env} {s : State} {m : MethodId} {below : List Frame} {meth : Method} {c : Code} {Q : State → Prop} {l : Launch} {b L : Nat} {xs : Nat → Int32} {dC : Nat → ClassId} {dI : Nat → Nat → Nat} {cI cZ cL : ClassId} {ad am : Nat → Nat} (hF : LF p s m meth c b L xs l dC dI cI cZ cL ad am) {i : Int32} (hi : 0 ≤ i.toInt ∧ i.toInt + 6 ≤ L) {H : Heap} {locs : List Loc} {x : ST} {z : RT} {fo : Nat → Int64} {ls : Array Slot} {cells slots : Nat} (hI : LI s dC dI cI cZ cL ad am H locs x z fo) (hl : lv_has ls 7 [(4, .int i), (0, .ref b), (1, .ref (ad 0)), (2, .ref (am 0)), (3, .ref (ad 29))]) (hc : cells + 1 ≤ 1088 ∧ slots + 6 ≤ 10706) (kk : ∀ (H : Heap) (locs : List Loc) (x : ST) (z : RT) (fo : Nat → Int64) (ls : Array Slot), LI s dC dI cI cZ cL ad am H locs x z fo → lv_has ls 7 [(4, .int i), (0, .ref b), (1, .ref (ad 0)), (2, .ref (am 0)), (3, .ref (ad 29))] → W p l e room_1 s m #[Value.ref b] below meth c H locs (cells + 1) (slots + 6) Q (F0 m 1530 ls [])) : W p l e room_1 s m #[Value.ref b] below meth c H locs cells slots Q (F0 m 204 ls []) := by
  obtain ⟨htr, hx, hb, hret, hml, hown, hts, hX, hbl, hlocks, hLm, hE, hK, hN, hj, hjM, hdis, h30, h21⟩ := hF
  obtain ⟨hPC, hPR, hS, hR⟩ := hI
  have hbw : ∀ w ∈ BW, w.before #[Value.ref b] s = true := fun w h => hts w (List.mem_cons_of_mem _ h)
  have hbA : ¬ s.heap.size ≤ b := Nat.not_le.mpr hbl
  have hK2 : va_K (dC, dI) clsA [(cI, .int), (cZ, .boolean)] s := hK.sub [0, 1] rfl
  have hc2 : cells + 1 + 0 ≤ 1088 ∧ slots + 6 + 0 ≤ 10706 := hc
  refine lv_aload_n hx hb d_Law_law_204 rfl (lv_at hl 2 rfl) ?_
  refine lv_aload_n hx hb d_Law_law_205 rfl (lv_at hl 1 rfl) ?_
  refine lv_iload hx hb d_Law_law_206 (lv_at hl 0 rfl) ?_
  refine lv_iconst (v := 1) hx hb d_Law_law_208 (by decide) ?_
  refine lv_iadd hx hb d_Law_law_209 ?_
  refine va_sld hx hb hX hbl hbA hS (lw_in hi hLm 1 (by decide)) d_Law_law_210 ?_
  refine lv_aload_n hx hb d_Law_law_211 rfl (lv_at hl 1 rfl) ?_
  refine lv_iload hx hb d_Law_law_212 (lv_at hl 0 rfl) ?_
  refine lv_iconst (v := 2) hx hb d_Law_law_214 (by decide) ?_
  refine lv_iadd hx hb d_Law_law_215 ?_
  refine va_sld hx hb hX hbl hbA hS (lw_in hi hLm 2 (by decide)) d_Law_law_216 ?_
  refine lv_aload_n hx hb d_Law_law_217 rfl (lv_at hl 1 rfl) ?_
  refine lv_iload hx hb d_Law_law_218 (lv_at hl 0 rfl) ?_
  refine lv_iconst (v := 3) hx hb d_Law_law_220 (by decide) ?_
  refine lv_iadd hx hb d_Law_law_221 ?_
  refine va_sld hx hb hX hbl hbA hS (lw_in hi hLm 3 (by decide)) d_Law_law_222 ?_
  refine lv_aload_n hx hb d_Law_law_223 rfl (lv_at hl 1 rfl) ?_
  refine lv_iload hx hb d_Law_law_224 (lv_at hl 0 rfl) ?_
  refine lv_iconst (v := 4) hx hb d_Law_law_226 (by decide) ?_
  refine lv_iadd hx hb d_Law_law_227 ?_
  refine va_sld hx hb hX hbl hbA hS (lw_in hi hLm 4 (by decide)) d_Law_law_228 ?_
  refine lv_aload_n hx hb d_Law_law_229 rfl (lv_at hl 4 rfl) ?_
  refine x_upd (x_runSW (n := 6) (y := y_Law_door) (bytes := b_Law_door) (maxL := 7) (ret := some .int) (hs := [(0, 14, 17, 13), (0, 14, 21, 15), (0, 14, 25, 23), (0, 14, 29, 17)]) (As := [.ref (ad 0), .int (xs (i + 1).toNatClampNeg), .int (xs (i + 2).toNatClampNeg), .int (xs (i + 3).toNatClampNeg), .int (xs (i + 4).toNatClampNeg), .ref (ad 29)]) (rest := []) ⟨hx, hb, hml, hown, hts⟩ (h_door l htr dC dI cI cZ cL ad hj x hR.cin fo H.size (xs (i + 1).toNatClampNeg) (xs (i + 2).toNatClampNeg) (xs (i + 3).toNatClampNeg) (xs (i + 4).toNatClampNeg)) (gBW w_349) List.mem_cons_self rfl rfl ⟨Nat.le_of_ble_eq_true rfl, Nat.le_of_ble_eq_true rfl⟩ (hbw _ w_0) (hbw _ w_347) (hbw _ w_348) (by decide +kernel) ⟨PL.blind, fun U hU hW => ⟨hE.to hS hU hW, PCZ.at hK hN hPC U hU hW⟩⟩ rfl rfl hl.1 rfl (lv_room (Nat.le_of_ble_eq_true rfl)) d_Law_law_230 hc) hS (fun q _ h => lw_aC hS rfl (fun _ h => h) h30 q h) (fun q h => lw_aC hS rfl (fun _ h => h) h30 q h) (fun t H1 locs ht hW hB hz1 hk1 hS => ?_)
  obtain ⟨hPC1, -, -⟩ := hB
  rw [ht] at hPC1
  have hPR := lw_keepM hPR hdis hk1
  clear hPC
  have hPC := hPC1
  clear hPC1 hk1
  obtain ⟨r1, r2, r3⟩ := R_door hR (xs (i + 1).toNatClampNeg) (xs (i + 2).toNatClampNeg) (xs (i + 3).toNatClampNeg) (xs (i + 4).toNatClampNeg)
  refine lv_istore (lv' := [(5, .int (hv_door x (xs (i + 1).toNatClampNeg) (xs (i + 2).toNatClampNeg) (xs (i + 3).toNatClampNeg) (xs (i + 4).toNatClampNeg))), (4, .int i), (0, .ref b), (1, .ref (ad 0)), (2, .ref (am 0)), (3, .ref (ad 29))]) hx hb d_Law_law_233 hl (by decide) rfl (fun ls hl => ?_)
  refine lv_aload_n hx hb d_Law_law_235 rfl (lv_at hl 4 rfl) ?_
  refine lv_aload_n hx hb d_Law_law_236 rfl (lv_at hl 2 rfl) ?_
  refine lv_iload hx hb d_Law_law_237 (lv_at hl 1 rfl) ?_
  refine lv_iconst (v := 1) hx hb d_Law_law_239 (by decide) ?_
  refine lv_iadd hx hb d_Law_law_240 ?_
  refine va_sld hx hb hX hbl hbA hS (lw_in hi hLm 1 (by decide)) d_Law_law_241 ?_
  refine lv_aload_n hx hb d_Law_law_242 rfl (lv_at hl 2 rfl) ?_
  refine lv_iload hx hb d_Law_law_243 (lv_at hl 1 rfl) ?_
  refine lv_iconst (v := 2) hx hb d_Law_law_245 (by decide) ?_
  refine lv_iadd hx hb d_Law_law_246 ?_
  refine va_sld hx hb hX hbl hbA hS (lw_in hi hLm 2 (by decide)) d_Law_law_247 ?_
  refine lv_aload_n hx hb d_Law_law_248 rfl (lv_at hl 2 rfl) ?_
  refine lv_iload hx hb d_Law_law_249 (lv_at hl 1 rfl) ?_
  refine lv_iconst (v := 3) hx hb d_Law_law_251 (by decide) ?_
  refine lv_iadd hx hb d_Law_law_252 ?_
  refine va_sld hx hb hX hbl hbA hS (lw_in hi hLm 3 (by decide)) d_Law_law_253 ?_
  refine lv_aload_n hx hb d_Law_law_254 rfl (lv_at hl 2 rfl) ?_
  refine lv_iload hx hb d_Law_law_255 (lv_at hl 1 rfl) ?_
  refine lv_iconst (v := 4) hx hb d_Law_law_257 (by decide) ?_
  refine lv_iadd hx hb d_Law_law_258 ?_
  refine va_sld hx hb hX hbl hbA hS (lw_in hi hLm 4 (by decide)) d_Law_law_259 ?_
  refine x_upd (x_runV (C := "PlanRowsModel") (b := am 0) (As := [.int (xs (i + 1).toNatClampNeg), .int (xs (i + 2).toNatClampNeg), .int (xs (i + 3).toNatClampNeg), .int (xs (i + 4).toNatClampNeg)]) (rest := []) ⟨hx, hb, hml, hown, hts⟩ (u_Mod_door l dC dI cI cZ am hjM z hR.2.1 H1.size (xs (i + 1).toNatClampNeg) (xs (i + 2).toNatClampNeg) (xs (i + 3).toNatClampNeg) (xs (i + 4).toNatClampNeg)) (cw_Law_103 hts rfl rfl ⟨Nat.le_of_ble_eq_true rfl, Nat.le_of_ble_eq_true rfl⟩) ⟨PCZ.blind, va_recv hK2 hPR (ci := 9) (q0 := 0) rfl rfl, PCZ.at hK2 hN hPR⟩ rfl rfl hl.1 rfl (lv_room (Nat.le_of_ble_eq_true rfl)) d_Law_law_260 hc2) hS (fun q _ h => lw_aC hS rfl (fun _ h => h) h21 q h) (fun q h => lw_aC hS rfl (fun _ h => h) h21 q h) (fun t H2 locs ht hW hB hz2 hk2 hS => ?_)
  obtain ⟨hPR1, -, -⟩ := hB
  rw [ht] at hPR1
  have hPC := lw_keepC hPC hdis hk2
  clear hPR
  have hPR := hPR1
  clear hPR1 hk2
  refine lv_istore (lv' := [(6, .int (g_Mod_door z (xs (i + 1).toNatClampNeg) (xs (i + 2).toNatClampNeg) (xs (i + 3).toNatClampNeg) (xs (i + 4).toNatClampNeg)).1), (5, .int (hv_door x (xs (i + 1).toNatClampNeg) (xs (i + 2).toNatClampNeg) (xs (i + 3).toNatClampNeg) (xs (i + 4).toNatClampNeg))), (4, .int i), (0, .ref b), (1, .ref (ad 0)), (2, .ref (am 0)), (3, .ref (ad 29))]) hx hb d_Law_law_263 hl (by decide) rfl (fun ls hl => ?_)
  refine lv_aload_n hx hb d_Law_law_265 rfl (lv_at hl 5 rfl) ?_
  refine x_pure (x_runV (C := "PlanRowsModel") (b := am 0) (As := []) (rest := []) ⟨hx, hb, hml, hown, hts⟩ (c_Mod_thrown l dC dI cI cZ am (g_Mod_door z (xs (i + 1).toNatClampNeg) (xs (i + 2).toNatClampNeg) (xs (i + 3).toNatClampNeg) (xs (i + 4).toNatClampNeg)).2 r3.2.1) (cw_Law_96 hts rfl rfl ⟨Nat.le_of_ble_eq_true rfl, Nat.le_of_ble_eq_true rfl⟩) ⟨PC.blind, va_recv hK2 hPR (ci := 9) (q0 := 0) rfl rfl, PC.at hK2 hN hPR⟩ rfl rfl hl.1 rfl (lv_room (Nat.le_of_ble_eq_true rfl)) d_Law_law_266 hc2) ?_
  refine lv_iload hx hb d_Law_law_269 (lv_at hl 1 rfl) ?_
  refine lv_icmp_eq (tgt := 276) hx hb d_Law_law_271 (by decide) (fun c3 => ?_) (fun c3 => absurd r1 c3)
  refine lv_iload hx hb d_Law_law_276 (lv_at hl 1 rfl) ?_
  refine lv_if_ne (tgt := 293) hx hb d_Law_law_278 (by decide) (fun c0 => ?_) (fun c0 => ?_)
  · refine lv_goto (tgt := 1530) hx hb d_Law_law_293 (by decide) ?_
    exact kk _ _ _ _ _ _ ⟨hPC, hPR, hS, r3⟩ (lv_sub hl [2, 3, 4, 5, 6] rfl)
  · refine lv_aload_n hx hb d_Law_law_281 rfl (lv_at hl 6 rfl) ?_
    refine lv_iconst (v := 0) hx hb d_Law_law_282 (by decide) ?_
    refine va_lald hx hb hK hPC 29 2 rfl rfl in01 d_Law_law_283 ?_
    refine lv_iload hx hb d_Law_law_284 (lv_at hl 0 rfl) ?_
    refine lv_i2l hx hb d_Law_law_286 rfl ?_
    refine W.lcmp hx hb d_Law_law_287 ?_
    refine lv_if_eq (tgt := 293) hx hb d_Law_law_288 (by decide) (fun c2 => ?_) (fun c2 => ?_)
    · refine lv_goto (tgt := 1530) hx hb d_Law_law_293 (by decide) ?_
      exact kk _ _ _ _ _ _ ⟨hPC, hPR, hS, r3⟩ (lv_sub hl [2, 3, 4, 5, 6] rfl)
    · exact absurd (oc_door hR (xs (i + 1).toNatClampNeg) (xs (i + 2).toNatClampNeg) (xs (i + 3).toNatClampNeg) (xs (i + 4).toNatClampNeg) fo c0) c2
set_option maxHeartbeats 1000000 in
set_option maxRecDepth 100000 in
theorem lc_key {p : Program} {e : Env} {s : State} {m : MethodId} {below : List Frame} {meth : Method} {c : Code} {Q : State → Prop} {l : Launch} {b L : Nat} {xs : Nat → Int32} {dC : Nat → ClassId} {dI : Nat → Nat → Nat} {cI cZ cL : ClassId} {ad am : Nat → Nat} (hF : LF p s m meth c b L xs l dC dI cI cZ cL ad am) {i : Int32} (hi : 0 ≤ i.toInt ∧ i.toInt + 6 ≤ L) {H : Heap} {locs : List Loc} {x : ST} {z : RT} {fo : Nat → Int64} {ls : Array Slot} {cells slots : Nat} (hI : LI s dC dI cI cZ cL ad am H locs x z fo) (hl : lv_has ls 7 [(4, .int i), (0, .ref b), (1, .ref (ad 0)), (2, .ref (am 0)), (3, .ref (ad 29))]) (hc : cells + 1 ≤ 1088 ∧ slots + 6 ≤ 10706) (kk : ∀ (H : Heap) (locs : List Loc) (x : ST) (z : RT) (fo : Nat → Int64) (ls : Array Slot), LI s dC dI cI cZ cL ad am H locs x z fo → lv_has ls 7 [(4, .int i), (0, .ref b), (1, .ref (ad 0)), (2, .ref (am 0)), (3, .ref (ad 29))] → W p l e room_1 s m #[Value.ref b] below meth c H locs (cells + 1) (slots + 6) Q (F0 m 1530 ls [])) : W p l e room_1 s m #[Value.ref b] below meth c H locs cells slots Q (F0 m 296 ls []) := by
  obtain ⟨htr, hx, hb, hret, hml, hown, hts, hX, hbl, hlocks, hLm, hE, hK, hN, hj, hjM, hdis, h30, h21⟩ := hF
  obtain ⟨hPC, hPR, hS, hR⟩ := hI
  have hbw : ∀ w ∈ BW, w.before #[Value.ref b] s = true := fun w h => hts w (List.mem_cons_of_mem _ h)
  have hbA : ¬ s.heap.size ≤ b := Nat.not_le.mpr hbl
  have hK2 : va_K (dC, dI) clsA [(cI, .int), (cZ, .boolean)] s := hK.sub [0, 1] rfl
  have hc2 : cells + 1 + 0 ≤ 1088 ∧ slots + 6 + 0 ≤ 10706 := hc
  refine lv_aload_n hx hb d_Law_law_296 rfl (lv_at hl 2 rfl) ?_
  refine lv_aload_n hx hb d_Law_law_297 rfl (lv_at hl 1 rfl) ?_
  refine lv_iload hx hb d_Law_law_298 (lv_at hl 0 rfl) ?_
  refine lv_iconst (v := 1) hx hb d_Law_law_300 (by decide) ?_
  refine lv_iadd hx hb d_Law_law_301 ?_
  refine va_sld hx hb hX hbl hbA hS (lw_in hi hLm 1 (by decide)) d_Law_law_302 ?_
  refine lv_aload_n hx hb d_Law_law_303 rfl (lv_at hl 1 rfl) ?_
  refine lv_iload hx hb d_Law_law_304 (lv_at hl 0 rfl) ?_
  refine lv_iconst (v := 2) hx hb d_Law_law_306 (by decide) ?_
  refine lv_iadd hx hb d_Law_law_307 ?_
  refine va_sld hx hb hX hbl hbA hS (lw_in hi hLm 2 (by decide)) d_Law_law_308 ?_
  refine lv_if_eq (tgt := 316) hx hb d_Law_law_309 (by decide) (fun c0 => ?_) (fun c0 => ?_)
  · have on := c0
    refine lv_iconst (v := 0) hx hb d_Law_law_316 (by decide) ?_
    refine x_upd (x_runSW (n := 3) (y := y_Law_key) (bytes := b_Law_key) (maxL := 4) (ret := some .int) (hs := [(0, 6, 9, 13), (0, 6, 12, 23)]) (As := [.ref (ad 0), .int (xs (i + 1).toNatClampNeg), .int 0]) (rest := []) ⟨hx, hb, hml, hown, hts⟩ (h_key l htr dC dI cI cZ cL ad hj x hR.cin fo H.size (xs (i + 1).toNatClampNeg) 0) (gBW w_394) List.mem_cons_self rfl rfl ⟨Nat.le_of_ble_eq_true rfl, Nat.le_of_ble_eq_true rfl⟩ (hbw _ w_0) (hbw _ w_392) (hbw _ w_393) (by decide +kernel) ⟨PL.blind, fun U hU hW => ⟨hE.to hS hU hW, PCZ.at hK hN hPC U hU hW⟩⟩ rfl rfl hl.1 rfl (lv_room (Nat.le_of_ble_eq_true rfl)) d_Law_law_317 hc) hS (fun q _ h => lw_aC hS rfl (fun _ h => h) h30 q h) (fun q h => lw_aC hS rfl (fun _ h => h) h30 q h) (fun t H1 locs ht hW hB hz1 hk1 hS => ?_)
    obtain ⟨hPC1, -, -⟩ := hB
    rw [ht] at hPC1
    have hPR := lw_keepM hPR hdis hk1
    clear hPC
    have hPC := hPC1
    clear hPC1 hk1
    obtain ⟨r1, r2, r3⟩ := R_key hR (xs (i + 1).toNatClampNeg) 0 (Or.inl rfl)
    refine lv_istore (lv' := [(5, .int (hv_key x (xs (i + 1).toNatClampNeg) 0)), (4, .int i), (0, .ref b), (1, .ref (ad 0)), (2, .ref (am 0)), (3, .ref (ad 29))]) hx hb d_Law_law_320 hl (by decide) rfl (fun ls hl => ?_)
    refine lv_aload_n hx hb d_Law_law_322 rfl (lv_at hl 4 rfl) ?_
    refine lv_aload_n hx hb d_Law_law_323 rfl (lv_at hl 2 rfl) ?_
    refine lv_iload hx hb d_Law_law_324 (lv_at hl 1 rfl) ?_
    refine lv_iconst (v := 1) hx hb d_Law_law_326 (by decide) ?_
    refine lv_iadd hx hb d_Law_law_327 ?_
    refine va_sld hx hb hX hbl hbA hS (lw_in hi hLm 1 (by decide)) d_Law_law_328 ?_
    refine lv_aload_n hx hb d_Law_law_329 rfl (lv_at hl 2 rfl) ?_
    refine lv_iload hx hb d_Law_law_330 (lv_at hl 1 rfl) ?_
    refine lv_iconst (v := 2) hx hb d_Law_law_332 (by decide) ?_
    refine lv_iadd hx hb d_Law_law_333 ?_
    refine va_sld hx hb hX hbl hbA hS (lw_in hi hLm 2 (by decide)) d_Law_law_334 ?_
    refine lv_if_eq (tgt := 342) hx hb d_Law_law_335 (by decide) (fun c0 => ?_) (fun c0 => ?_)
    · refine lv_iconst (v := 0) hx hb d_Law_law_342 (by decide) ?_
      refine x_upd (x_runV (C := "PlanRowsModel") (b := am 0) (As := [.int (xs (i + 1).toNatClampNeg), .int 0]) (rest := []) ⟨hx, hb, hml, hown, hts⟩ (u_Mod_key l dC dI cI cZ am hjM z hR.2.1 H1.size (xs (i + 1).toNatClampNeg) 0) (cw_Law_107 hts rfl rfl ⟨Nat.le_of_ble_eq_true rfl, Nat.le_of_ble_eq_true rfl⟩) ⟨PCZ.blind, va_recv hK2 hPR (ci := 9) (q0 := 0) rfl rfl, PCZ.at hK2 hN hPR⟩ rfl rfl hl.1 rfl (lv_room (Nat.le_of_ble_eq_true rfl)) d_Law_law_343 hc2) hS (fun q _ h => lw_aC hS rfl (fun _ h => h) h21 q h) (fun q h => lw_aC hS rfl (fun _ h => h) h21 q h) (fun t H2 locs ht hW hB hz2 hk2 hS => ?_)
      obtain ⟨hPR1, -, -⟩ := hB
      rw [ht] at hPR1
      have hPC := lw_keepC hPC hdis hk2
      clear hPR
      have hPR := hPR1
      clear hPR1 hk2
      refine lv_aload_n hx hb d_Law_law_346 rfl (lv_at hl 4 rfl) ?_
      refine x_pure (x_runV (C := "PlanRowsModel") (b := am 0) (As := []) (rest := []) ⟨hx, hb, hml, hown, hts⟩ (c_Mod_thrown l dC dI cI cZ am (g_Mod_key z (xs (i + 1).toNatClampNeg) 0).2 r3.2.1) (cw_Law_96 hts rfl rfl ⟨Nat.le_of_ble_eq_true rfl, Nat.le_of_ble_eq_true rfl⟩) ⟨PC.blind, va_recv hK2 hPR (ci := 9) (q0 := 0) rfl rfl, PC.at hK2 hN hPR⟩ rfl rfl hl.1 rfl (lv_room (Nat.le_of_ble_eq_true rfl)) d_Law_law_347 hc2) ?_
      refine lv_iload hx hb d_Law_law_350 (lv_at hl 0 rfl) ?_
      refine lv_icmp_eq (tgt := 357) hx hb d_Law_law_352 (by decide) (fun c3 => ?_) (fun c3 => absurd r1 c3)
      refine lv_goto (tgt := 1530) hx hb d_Law_law_357 (by decide) ?_
      exact kk _ _ _ _ _ _ ⟨hPC, hPR, hS, r3⟩ (lv_sub hl [1, 2, 3, 4, 5] rfl)
    · exact absurd on c0
  · have on := c0
    refine lv_iconst (v := 1) hx hb d_Law_law_312 (by decide) ?_
    refine lv_goto (tgt := 317) hx hb d_Law_law_313 (by decide) ?_
    refine x_upd (x_runSW (n := 3) (y := y_Law_key) (bytes := b_Law_key) (maxL := 4) (ret := some .int) (hs := [(0, 6, 9, 13), (0, 6, 12, 23)]) (As := [.ref (ad 0), .int (xs (i + 1).toNatClampNeg), .int 1]) (rest := []) ⟨hx, hb, hml, hown, hts⟩ (h_key l htr dC dI cI cZ cL ad hj x hR.cin fo H.size (xs (i + 1).toNatClampNeg) 1) (gBW w_394) List.mem_cons_self rfl rfl ⟨Nat.le_of_ble_eq_true rfl, Nat.le_of_ble_eq_true rfl⟩ (hbw _ w_0) (hbw _ w_392) (hbw _ w_393) (by decide +kernel) ⟨PL.blind, fun U hU hW => ⟨hE.to hS hU hW, PCZ.at hK hN hPC U hU hW⟩⟩ rfl rfl hl.1 rfl (lv_room (Nat.le_of_ble_eq_true rfl)) d_Law_law_317 hc) hS (fun q _ h => lw_aC hS rfl (fun _ h => h) h30 q h) (fun q h => lw_aC hS rfl (fun _ h => h) h30 q h) (fun t H1 locs ht hW hB hz1 hk1 hS => ?_)
    obtain ⟨hPC1, -, -⟩ := hB
    rw [ht] at hPC1
    have hPR := lw_keepM hPR hdis hk1
    clear hPC
    have hPC := hPC1
    clear hPC1 hk1
    obtain ⟨r1, r2, r3⟩ := R_key hR (xs (i + 1).toNatClampNeg) 1 (Or.inr rfl)
    refine lv_istore (lv' := [(5, .int (hv_key x (xs (i + 1).toNatClampNeg) 1)), (4, .int i), (0, .ref b), (1, .ref (ad 0)), (2, .ref (am 0)), (3, .ref (ad 29))]) hx hb d_Law_law_320 hl (by decide) rfl (fun ls hl => ?_)
    refine lv_aload_n hx hb d_Law_law_322 rfl (lv_at hl 4 rfl) ?_
    refine lv_aload_n hx hb d_Law_law_323 rfl (lv_at hl 2 rfl) ?_
    refine lv_iload hx hb d_Law_law_324 (lv_at hl 1 rfl) ?_
    refine lv_iconst (v := 1) hx hb d_Law_law_326 (by decide) ?_
    refine lv_iadd hx hb d_Law_law_327 ?_
    refine va_sld hx hb hX hbl hbA hS (lw_in hi hLm 1 (by decide)) d_Law_law_328 ?_
    refine lv_aload_n hx hb d_Law_law_329 rfl (lv_at hl 2 rfl) ?_
    refine lv_iload hx hb d_Law_law_330 (lv_at hl 1 rfl) ?_
    refine lv_iconst (v := 2) hx hb d_Law_law_332 (by decide) ?_
    refine lv_iadd hx hb d_Law_law_333 ?_
    refine va_sld hx hb hX hbl hbA hS (lw_in hi hLm 2 (by decide)) d_Law_law_334 ?_
    refine lv_if_eq (tgt := 342) hx hb d_Law_law_335 (by decide) (fun c0 => ?_) (fun c0 => ?_)
    · exact absurd c0 on
    · refine lv_iconst (v := 1) hx hb d_Law_law_338 (by decide) ?_
      refine lv_goto (tgt := 343) hx hb d_Law_law_339 (by decide) ?_
      refine x_upd (x_runV (C := "PlanRowsModel") (b := am 0) (As := [.int (xs (i + 1).toNatClampNeg), .int 1]) (rest := []) ⟨hx, hb, hml, hown, hts⟩ (u_Mod_key l dC dI cI cZ am hjM z hR.2.1 H1.size (xs (i + 1).toNatClampNeg) 1) (cw_Law_107 hts rfl rfl ⟨Nat.le_of_ble_eq_true rfl, Nat.le_of_ble_eq_true rfl⟩) ⟨PCZ.blind, va_recv hK2 hPR (ci := 9) (q0 := 0) rfl rfl, PCZ.at hK2 hN hPR⟩ rfl rfl hl.1 rfl (lv_room (Nat.le_of_ble_eq_true rfl)) d_Law_law_343 hc2) hS (fun q _ h => lw_aC hS rfl (fun _ h => h) h21 q h) (fun q h => lw_aC hS rfl (fun _ h => h) h21 q h) (fun t H2 locs ht hW hB hz2 hk2 hS => ?_)
      obtain ⟨hPR1, -, -⟩ := hB
      rw [ht] at hPR1
      have hPC := lw_keepC hPC hdis hk2
      clear hPR
      have hPR := hPR1
      clear hPR1 hk2
      refine lv_aload_n hx hb d_Law_law_346 rfl (lv_at hl 4 rfl) ?_
      refine x_pure (x_runV (C := "PlanRowsModel") (b := am 0) (As := []) (rest := []) ⟨hx, hb, hml, hown, hts⟩ (c_Mod_thrown l dC dI cI cZ am (g_Mod_key z (xs (i + 1).toNatClampNeg) 1).2 r3.2.1) (cw_Law_96 hts rfl rfl ⟨Nat.le_of_ble_eq_true rfl, Nat.le_of_ble_eq_true rfl⟩) ⟨PC.blind, va_recv hK2 hPR (ci := 9) (q0 := 0) rfl rfl, PC.at hK2 hN hPR⟩ rfl rfl hl.1 rfl (lv_room (Nat.le_of_ble_eq_true rfl)) d_Law_law_347 hc2) ?_
      refine lv_iload hx hb d_Law_law_350 (lv_at hl 0 rfl) ?_
      refine lv_icmp_eq (tgt := 357) hx hb d_Law_law_352 (by decide) (fun c3 => ?_) (fun c3 => absurd r1 c3)
      refine lv_goto (tgt := 1530) hx hb d_Law_law_357 (by decide) ?_
      exact kk _ _ _ _ _ _ ⟨hPC, hPR, hS, r3⟩ (lv_sub hl [1, 2, 3, 4, 5] rfl)
set_option maxHeartbeats 1000000 in
set_option maxRecDepth 100000 in
theorem lc_hazard {p : Program} {e : Env} {s : State} {m : MethodId} {below : List Frame} {meth : Method} {c : Code} {Q : State → Prop} {l : Launch} {b L : Nat} {xs : Nat → Int32} {dC : Nat → ClassId} {dI : Nat → Nat → Nat} {cI cZ cL : ClassId} {ad am : Nat → Nat} (hF : LF p s m meth c b L xs l dC dI cI cZ cL ad am) {i : Int32} (hi : 0 ≤ i.toInt ∧ i.toInt + 6 ≤ L) {H : Heap} {locs : List Loc} {x : ST} {z : RT} {fo : Nat → Int64} {ls : Array Slot} {cells slots : Nat} (hI : LI s dC dI cI cZ cL ad am H locs x z fo) (hl : lv_has ls 7 [(4, .int i), (0, .ref b), (1, .ref (ad 0)), (2, .ref (am 0)), (3, .ref (ad 29))]) (hc : cells + 1 ≤ 1088 ∧ slots + 6 ≤ 10706) (kk : ∀ (H : Heap) (locs : List Loc) (x : ST) (z : RT) (fo : Nat → Int64) (ls : Array Slot), LI s dC dI cI cZ cL ad am H locs x z fo → lv_has ls 7 [(4, .int i), (0, .ref b), (1, .ref (ad 0)), (2, .ref (am 0)), (3, .ref (ad 29))] → W p l e room_1 s m #[Value.ref b] below meth c H locs (cells + 1) (slots + 6) Q (F0 m 1530 ls [])) : W p l e room_1 s m #[Value.ref b] below meth c H locs cells slots Q (F0 m 360 ls []) := by
  obtain ⟨htr, hx, hb, hret, hml, hown, hts, hX, hbl, hlocks, hLm, hE, hK, hN, hj, hjM, hdis, h30, h21⟩ := hF
  obtain ⟨hPC, hPR, hS, hR⟩ := hI
  have hbw : ∀ w ∈ BW, w.before #[Value.ref b] s = true := fun w h => hts w (List.mem_cons_of_mem _ h)
  have hbA : ¬ s.heap.size ≤ b := Nat.not_le.mpr hbl
  have hK2 : va_K (dC, dI) clsA [(cI, .int), (cZ, .boolean)] s := hK.sub [0, 1] rfl
  have hc2 : cells + 1 + 0 ≤ 1088 ∧ slots + 6 + 0 ≤ 10706 := hc
  refine lv_aload_n hx hb d_Law_law_360 rfl (lv_at hl 2 rfl) ?_
  refine lv_aload_n hx hb d_Law_law_361 rfl (lv_at hl 1 rfl) ?_
  refine lv_iload hx hb d_Law_law_362 (lv_at hl 0 rfl) ?_
  refine lv_iconst (v := 1) hx hb d_Law_law_364 (by decide) ?_
  refine lv_iadd hx hb d_Law_law_365 ?_
  refine va_sld hx hb hX hbl hbA hS (lw_in hi hLm 1 (by decide)) d_Law_law_366 ?_
  refine lv_aload_n hx hb d_Law_law_367 rfl (lv_at hl 1 rfl) ?_
  refine lv_iload hx hb d_Law_law_368 (lv_at hl 0 rfl) ?_
  refine lv_iconst (v := 2) hx hb d_Law_law_370 (by decide) ?_
  refine lv_iadd hx hb d_Law_law_371 ?_
  refine va_sld hx hb hX hbl hbA hS (lw_in hi hLm 2 (by decide)) d_Law_law_372 ?_
  refine x_upd (x_runSW (n := 3) (y := y_Law_hazard) (bytes := b_Law_hazard) (maxL := 4) (ret := some .int) (hs := [(0, 6, 9, 13), (0, 6, 12, 15)]) (As := [.ref (ad 0), .int (xs (i + 1).toNatClampNeg), .int (xs (i + 2).toNatClampNeg)]) (rest := []) ⟨hx, hb, hml, hown, hts⟩ (h_hazard l htr dC dI cI cZ cL ad hj x hR.cin fo H.size (xs (i + 1).toNatClampNeg) (xs (i + 2).toNatClampNeg)) (gBW w_416) List.mem_cons_self rfl rfl ⟨Nat.le_of_ble_eq_true rfl, Nat.le_of_ble_eq_true rfl⟩ (hbw _ w_0) (hbw _ w_414) (hbw _ w_415) (by decide +kernel) ⟨PL.blind, fun U hU hW => ⟨hE.to hS hU hW, PCZ.at hK hN hPC U hU hW⟩⟩ rfl rfl hl.1 rfl (lv_room (Nat.le_of_ble_eq_true rfl)) d_Law_law_373 hc) hS (fun q _ h => lw_aC hS rfl (fun _ h => h) h30 q h) (fun q h => lw_aC hS rfl (fun _ h => h) h30 q h) (fun t H1 locs ht hW hB hz1 hk1 hS => ?_)
  obtain ⟨hPC1, -, -⟩ := hB
  rw [ht] at hPC1
  have hPR := lw_keepM hPR hdis hk1
  clear hPC
  have hPC := hPC1
  clear hPC1 hk1
  obtain ⟨r1, r2, r3⟩ := R_hazard hR (xs (i + 1).toNatClampNeg) (xs (i + 2).toNatClampNeg)
  refine lv_istore (lv' := [(5, .int (hv_hazard x (xs (i + 1).toNatClampNeg) (xs (i + 2).toNatClampNeg))), (4, .int i), (0, .ref b), (1, .ref (ad 0)), (2, .ref (am 0)), (3, .ref (ad 29))]) hx hb d_Law_law_376 hl (by decide) rfl (fun ls hl => ?_)
  refine lv_aload_n hx hb d_Law_law_378 rfl (lv_at hl 4 rfl) ?_
  refine lv_aload_n hx hb d_Law_law_379 rfl (lv_at hl 2 rfl) ?_
  refine lv_iload hx hb d_Law_law_380 (lv_at hl 1 rfl) ?_
  refine lv_iconst (v := 1) hx hb d_Law_law_382 (by decide) ?_
  refine lv_iadd hx hb d_Law_law_383 ?_
  refine va_sld hx hb hX hbl hbA hS (lw_in hi hLm 1 (by decide)) d_Law_law_384 ?_
  refine lv_aload_n hx hb d_Law_law_385 rfl (lv_at hl 2 rfl) ?_
  refine lv_iload hx hb d_Law_law_386 (lv_at hl 1 rfl) ?_
  refine lv_iconst (v := 2) hx hb d_Law_law_388 (by decide) ?_
  refine lv_iadd hx hb d_Law_law_389 ?_
  refine va_sld hx hb hX hbl hbA hS (lw_in hi hLm 2 (by decide)) d_Law_law_390 ?_
  refine x_upd (x_runV (C := "PlanRowsModel") (b := am 0) (As := [.int (xs (i + 1).toNatClampNeg), .int (xs (i + 2).toNatClampNeg)]) (rest := []) ⟨hx, hb, hml, hown, hts⟩ (u_Mod_hazard l dC dI cI cZ am hjM z hR.2.1 H1.size (xs (i + 1).toNatClampNeg) (xs (i + 2).toNatClampNeg)) (cw_Law_111 hts rfl rfl ⟨Nat.le_of_ble_eq_true rfl, Nat.le_of_ble_eq_true rfl⟩) ⟨PCZ.blind, va_recv hK2 hPR (ci := 9) (q0 := 0) rfl rfl, PCZ.at hK2 hN hPR⟩ rfl rfl hl.1 rfl (lv_room (Nat.le_of_ble_eq_true rfl)) d_Law_law_391 hc2) hS (fun q _ h => lw_aC hS rfl (fun _ h => h) h21 q h) (fun q h => lw_aC hS rfl (fun _ h => h) h21 q h) (fun t H2 locs ht hW hB hz2 hk2 hS => ?_)
  obtain ⟨hPR1, -, -⟩ := hB
  rw [ht] at hPR1
  have hPC := lw_keepC hPC hdis hk2
  clear hPR
  have hPR := hPR1
  clear hPR1 hk2
  refine lv_aload_n hx hb d_Law_law_394 rfl (lv_at hl 4 rfl) ?_
  refine x_pure (x_runV (C := "PlanRowsModel") (b := am 0) (As := []) (rest := []) ⟨hx, hb, hml, hown, hts⟩ (c_Mod_thrown l dC dI cI cZ am (g_Mod_hazard z (xs (i + 1).toNatClampNeg) (xs (i + 2).toNatClampNeg)).2 r3.2.1) (cw_Law_96 hts rfl rfl ⟨Nat.le_of_ble_eq_true rfl, Nat.le_of_ble_eq_true rfl⟩) ⟨PC.blind, va_recv hK2 hPR (ci := 9) (q0 := 0) rfl rfl, PC.at hK2 hN hPR⟩ rfl rfl hl.1 rfl (lv_room (Nat.le_of_ble_eq_true rfl)) d_Law_law_395 hc2) ?_
  refine lv_iload hx hb d_Law_law_398 (lv_at hl 0 rfl) ?_
  refine lv_icmp_eq (tgt := 405) hx hb d_Law_law_400 (by decide) (fun c3 => ?_) (fun c3 => absurd r1 c3)
  refine lv_goto (tgt := 1530) hx hb d_Law_law_405 (by decide) ?_
  exact kk _ _ _ _ _ _ ⟨hPC, hPR, hS, r3⟩ (lv_sub hl [1, 2, 3, 4, 5] rfl)
set_option maxHeartbeats 1000000 in
set_option maxRecDepth 100000 in
theorem lc_way {p : Program} {e : Env} {s : State} {m : MethodId} {below : List Frame} {meth : Method} {c : Code} {Q : State → Prop} {l : Launch} {b L : Nat} {xs : Nat → Int32} {dC : Nat → ClassId} {dI : Nat → Nat → Nat} {cI cZ cL : ClassId} {ad am : Nat → Nat} (hF : LF p s m meth c b L xs l dC dI cI cZ cL ad am) {i : Int32} (hi : 0 ≤ i.toInt ∧ i.toInt + 6 ≤ L) {H : Heap} {locs : List Loc} {x : ST} {z : RT} {fo : Nat → Int64} {ls : Array Slot} {cells slots : Nat} (hI : LI s dC dI cI cZ cL ad am H locs x z fo) (hl : lv_has ls 7 [(4, .int i), (0, .ref b), (1, .ref (ad 0)), (2, .ref (am 0)), (3, .ref (ad 29))]) (hc : cells + 1 ≤ 1088 ∧ slots + 6 ≤ 10706) (kk : ∀ (H : Heap) (locs : List Loc) (x : ST) (z : RT) (fo : Nat → Int64) (ls : Array Slot), LI s dC dI cI cZ cL ad am H locs x z fo → lv_has ls 7 [(4, .int i), (0, .ref b), (1, .ref (ad 0)), (2, .ref (am 0)), (3, .ref (ad 29))] → W p l e room_1 s m #[Value.ref b] below meth c H locs (cells + 1) (slots + 6) Q (F0 m 1530 ls [])) : W p l e room_1 s m #[Value.ref b] below meth c H locs cells slots Q (F0 m 408 ls []) := by
  obtain ⟨htr, hx, hb, hret, hml, hown, hts, hX, hbl, hlocks, hLm, hE, hK, hN, hj, hjM, hdis, h30, h21⟩ := hF
  obtain ⟨hPC, hPR, hS, hR⟩ := hI
  have hbw : ∀ w ∈ BW, w.before #[Value.ref b] s = true := fun w h => hts w (List.mem_cons_of_mem _ h)
  have hbA : ¬ s.heap.size ≤ b := Nat.not_le.mpr hbl
  have hK2 : va_K (dC, dI) clsA [(cI, .int), (cZ, .boolean)] s := hK.sub [0, 1] rfl
  have hc2 : cells + 1 + 0 ≤ 1088 ∧ slots + 6 + 0 ≤ 10706 := hc
  refine lv_aload_n hx hb d_Law_law_408 rfl (lv_at hl 2 rfl) ?_
  refine lv_aload_n hx hb d_Law_law_409 rfl (lv_at hl 1 rfl) ?_
  refine lv_iload hx hb d_Law_law_410 (lv_at hl 0 rfl) ?_
  refine lv_iconst (v := 1) hx hb d_Law_law_412 (by decide) ?_
  refine lv_iadd hx hb d_Law_law_413 ?_
  refine va_sld hx hb hX hbl hbA hS (lw_in hi hLm 1 (by decide)) d_Law_law_414 ?_
  refine lv_aload_n hx hb d_Law_law_415 rfl (lv_at hl 1 rfl) ?_
  refine lv_iload hx hb d_Law_law_416 (lv_at hl 0 rfl) ?_
  refine lv_iconst (v := 2) hx hb d_Law_law_418 (by decide) ?_
  refine lv_iadd hx hb d_Law_law_419 ?_
  refine va_sld hx hb hX hbl hbA hS (lw_in hi hLm 2 (by decide)) d_Law_law_420 ?_
  refine lv_aload_n hx hb d_Law_law_421 rfl (lv_at hl 1 rfl) ?_
  refine lv_iload hx hb d_Law_law_422 (lv_at hl 0 rfl) ?_
  refine lv_iconst (v := 3) hx hb d_Law_law_424 (by decide) ?_
  refine lv_iadd hx hb d_Law_law_425 ?_
  refine va_sld hx hb hX hbl hbA hS (lw_in hi hLm 3 (by decide)) d_Law_law_426 ?_
  refine lv_aload_n hx hb d_Law_law_427 rfl (lv_at hl 4 rfl) ?_
  refine x_upd (x_runSW (n := 5) (y := y_Law_way) (bytes := b_Law_way) (maxL := 6) (ret := some .int) (hs := [(0, 12, 15, 13), (0, 12, 19, 15)]) (As := [.ref (ad 0), .int (xs (i + 1).toNatClampNeg), .int (xs (i + 2).toNatClampNeg), .int (xs (i + 3).toNatClampNeg), .ref (ad 29)]) (rest := []) ⟨hx, hb, hml, hown, hts⟩ (h_way l htr dC dI cI cZ cL ad hj x hR.cin fo H.size (xs (i + 1).toNatClampNeg) (xs (i + 2).toNatClampNeg) (xs (i + 3).toNatClampNeg)) (gBW w_427) List.mem_cons_self rfl rfl ⟨Nat.le_of_ble_eq_true rfl, Nat.le_of_ble_eq_true rfl⟩ (hbw _ w_0) (hbw _ w_425) (hbw _ w_426) (by decide +kernel) ⟨PL.blind, fun U hU hW => ⟨hE.to hS hU hW, PCZ.at hK hN hPC U hU hW⟩⟩ rfl rfl hl.1 rfl (lv_room (Nat.le_of_ble_eq_true rfl)) d_Law_law_428 hc) hS (fun q _ h => lw_aC hS rfl (fun _ h => h) h30 q h) (fun q h => lw_aC hS rfl (fun _ h => h) h30 q h) (fun t H1 locs ht hW hB hz1 hk1 hS => ?_)
  obtain ⟨hPC1, -, -⟩ := hB
  rw [ht] at hPC1
  have hPR := lw_keepM hPR hdis hk1
  clear hPC
  have hPC := hPC1
  clear hPC1 hk1
  obtain ⟨r1, r2, r3⟩ := R_way hR (xs (i + 1).toNatClampNeg) (xs (i + 2).toNatClampNeg) (xs (i + 3).toNatClampNeg)
  refine lv_istore (lv' := [(5, .int (hv_way x (xs (i + 1).toNatClampNeg) (xs (i + 2).toNatClampNeg) (xs (i + 3).toNatClampNeg))), (4, .int i), (0, .ref b), (1, .ref (ad 0)), (2, .ref (am 0)), (3, .ref (ad 29))]) hx hb d_Law_law_431 hl (by decide) rfl (fun ls hl => ?_)
  refine lv_aload_n hx hb d_Law_law_433 rfl (lv_at hl 4 rfl) ?_
  refine lv_aload_n hx hb d_Law_law_434 rfl (lv_at hl 2 rfl) ?_
  refine lv_iload hx hb d_Law_law_435 (lv_at hl 1 rfl) ?_
  refine lv_iconst (v := 1) hx hb d_Law_law_437 (by decide) ?_
  refine lv_iadd hx hb d_Law_law_438 ?_
  refine va_sld hx hb hX hbl hbA hS (lw_in hi hLm 1 (by decide)) d_Law_law_439 ?_
  refine lv_aload_n hx hb d_Law_law_440 rfl (lv_at hl 2 rfl) ?_
  refine lv_iload hx hb d_Law_law_441 (lv_at hl 1 rfl) ?_
  refine lv_iconst (v := 2) hx hb d_Law_law_443 (by decide) ?_
  refine lv_iadd hx hb d_Law_law_444 ?_
  refine va_sld hx hb hX hbl hbA hS (lw_in hi hLm 2 (by decide)) d_Law_law_445 ?_
  refine lv_aload_n hx hb d_Law_law_446 rfl (lv_at hl 2 rfl) ?_
  refine lv_iload hx hb d_Law_law_447 (lv_at hl 1 rfl) ?_
  refine lv_iconst (v := 3) hx hb d_Law_law_449 (by decide) ?_
  refine lv_iadd hx hb d_Law_law_450 ?_
  refine va_sld hx hb hX hbl hbA hS (lw_in hi hLm 3 (by decide)) d_Law_law_451 ?_
  refine x_upd (x_runV (C := "PlanRowsModel") (b := am 0) (As := [.int (xs (i + 1).toNatClampNeg), .int (xs (i + 2).toNatClampNeg), .int (xs (i + 3).toNatClampNeg)]) (rest := []) ⟨hx, hb, hml, hown, hts⟩ (u_Mod_way l dC dI cI cZ am hjM z hR.2.1 H1.size (xs (i + 1).toNatClampNeg) (xs (i + 2).toNatClampNeg) (xs (i + 3).toNatClampNeg) hR.2.2.1) (cw_Law_115 hts rfl rfl ⟨Nat.le_of_ble_eq_true rfl, Nat.le_of_ble_eq_true rfl⟩) ⟨PCZ.blind, va_recv hK2 hPR (ci := 9) (q0 := 0) rfl rfl, PCZ.at hK2 hN hPR⟩ rfl rfl hl.1 rfl (lv_room (Nat.le_of_ble_eq_true rfl)) d_Law_law_452 hc2) hS (fun q _ h => lw_aC hS rfl (fun _ h => h) h21 q h) (fun q h => lw_aC hS rfl (fun _ h => h) h21 q h) (fun t H2 locs ht hW hB hz2 hk2 hS => ?_)
  obtain ⟨hPR1, -, -⟩ := hB
  rw [ht] at hPR1
  have hPC := lw_keepC hPC hdis hk2
  clear hPR
  have hPR := hPR1
  clear hPR1 hk2
  refine lv_istore (lv' := [(6, .int (g_Mod_way z (xs (i + 1).toNatClampNeg) (xs (i + 2).toNatClampNeg) (xs (i + 3).toNatClampNeg)).1), (5, .int (hv_way x (xs (i + 1).toNatClampNeg) (xs (i + 2).toNatClampNeg) (xs (i + 3).toNatClampNeg))), (4, .int i), (0, .ref b), (1, .ref (ad 0)), (2, .ref (am 0)), (3, .ref (ad 29))]) hx hb d_Law_law_455 hl (by decide) rfl (fun ls hl => ?_)
  refine lv_aload_n hx hb d_Law_law_457 rfl (lv_at hl 5 rfl) ?_
  refine x_pure (x_runV (C := "PlanRowsModel") (b := am 0) (As := []) (rest := []) ⟨hx, hb, hml, hown, hts⟩ (c_Mod_thrown l dC dI cI cZ am (g_Mod_way z (xs (i + 1).toNatClampNeg) (xs (i + 2).toNatClampNeg) (xs (i + 3).toNatClampNeg)).2 r3.2.1) (cw_Law_96 hts rfl rfl ⟨Nat.le_of_ble_eq_true rfl, Nat.le_of_ble_eq_true rfl⟩) ⟨PC.blind, va_recv hK2 hPR (ci := 9) (q0 := 0) rfl rfl, PC.at hK2 hN hPR⟩ rfl rfl hl.1 rfl (lv_room (Nat.le_of_ble_eq_true rfl)) d_Law_law_458 hc2) ?_
  refine lv_iload hx hb d_Law_law_461 (lv_at hl 1 rfl) ?_
  refine lv_icmp_eq (tgt := 468) hx hb d_Law_law_463 (by decide) (fun c3 => ?_) (fun c3 => absurd r1 c3)
  refine lv_iload hx hb d_Law_law_468 (lv_at hl 1 rfl) ?_
  refine lv_if_ne (tgt := 485) hx hb d_Law_law_470 (by decide) (fun c0 => ?_) (fun c0 => ?_)
  · refine lv_goto (tgt := 1530) hx hb d_Law_law_485 (by decide) ?_
    exact kk _ _ _ _ _ _ ⟨hPC, hPR, hS, r3⟩ (lv_sub hl [2, 3, 4, 5, 6] rfl)
  · refine lv_aload_n hx hb d_Law_law_473 rfl (lv_at hl 6 rfl) ?_
    refine lv_iconst (v := 0) hx hb d_Law_law_474 (by decide) ?_
    refine va_lald hx hb hK hPC 29 2 rfl rfl in01 d_Law_law_475 ?_
    refine lv_iload hx hb d_Law_law_476 (lv_at hl 0 rfl) ?_
    refine lv_i2l hx hb d_Law_law_478 rfl ?_
    refine W.lcmp hx hb d_Law_law_479 ?_
    refine lv_if_eq (tgt := 485) hx hb d_Law_law_480 (by decide) (fun c2 => ?_) (fun c2 => ?_)
    · refine lv_goto (tgt := 1530) hx hb d_Law_law_485 (by decide) ?_
      exact kk _ _ _ _ _ _ ⟨hPC, hPR, hS, r3⟩ (lv_sub hl [2, 3, 4, 5, 6] rfl)
    · exact absurd (oc_way hR (xs (i + 1).toNatClampNeg) (xs (i + 2).toNatClampNeg) (xs (i + 3).toNatClampNeg) fo c0) c2
