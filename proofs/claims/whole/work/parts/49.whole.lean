theorem D_dis {A : Nat → Prop} {N M : Nat} {f g : Nat → Nat} {w1 w2 : va_W} (hD : va_D A (w1 ++ w2)) (h1 : w1.map (·.1) = (List.range N).map f) (h2 : w2.map (·.1) = (List.range M).map g) : ∀ i j, i < N → j < M → f i ≠ g j := by
  intro i j hi hj he
  have hlen : w1.length = N := by have := congrArg List.length h1; simpa using this
  have hall : (w1 ++ w2).map (·.1) = (List.range (N + M)).map (fun k => if k < N then f k else g (k - N)) := by
    rw [List.map_append, h1, h2, List.range_add, List.map_append, List.map_map]
    congr 1
    · exact List.map_congr_left (fun k hk => by rw [if_pos (List.mem_range.mp hk)])
    · refine List.map_congr_left (fun k hk => ?_)
      show g k = if N + k < N then f (N + k) else g (N + k - N)
      rw [if_neg (by omega), Nat.add_sub_cancel_left]
  have := (D_inj hD hall).1 i (N + j) (by omega) (by omega) (by
    show (if i < N then f i else g (i - N)) = if N + j < N then f (N + j) else g (N + j - N)
    rw [if_pos hi, if_neg (by omega), Nat.add_sub_cancel_left]; exact he)
  omega
set_option maxHeartbeats 2000000 in
set_option maxRecDepth 100000 in
theorem whole_start {p : Program} {e : Env} {s : State} {m : MethodId} {below : List Frame} {meth : Method} {c : Code} (l : Launch) (htr : l.stackTraces = false) {b L : Nat} {xs : Nat → Int32} (hL : L ≤ 3072) (C0 : lw_At p s m meth c b L xs) : W p l e room_1 s m #[Value.ref b] below meth c s.heap [] 0 0 (lw_Z below #[Value.ref b] s) (entryFrame m ([Value.ref b] : List Value).toArray 7) := by
  obtain ⟨hx, hb, hret, hml, hown, htb, hX, hbl, hlocks, hgv⟩ := C0
  have hown : s.vm.findClass "PlanRowsLaw" = some m.cls := hown
  have hbw : ∀ w ∈ BW, w.before #[Value.ref b] s = true := fun w h => htb w (BW_sub h)
  have hts : ∀ w ∈ Cond.initialized "PlanRowsLaw" :: BW, w.before #[Value.ref b] s = true := fun w h => by
    rcases List.mem_cons.mp h with rfl | h
    · exact hbw _ w_0
    · exact hbw w h
  have ht1 : ∀ w ∈ tables_1, w.before #[Value.ref b] s = true := fun w h => htb w (List.mem_append_right _ h)
  have hE := ELA_start ht1 hgv
  have hN := NW_start ht1
  obtain ⟨dC, dI, cI, cZ, cL, hK⟩ := K_start hbw
  have hK2 : va_K (dC, dI) clsA [(cI, .int), (cZ, .boolean)] s := hK.sub [0, 1] rfl
  have hA : ∀ q : Nat, s.heap.size ≤ q → (fun q => s.heap.size ≤ q) q := fun _ h => h
  have hP : va_P (dC, dI) clsA [] s.heap := fun k q hk => by cases hk
  have hD : va_D (fun q => s.heap.size ≤ q) [] := ⟨fun i j q1 q2 h => (by cases h), fun k q h => by cases h⟩
  have hS : va_S (fun q => s.heap.size ≤ q) s.heap s.heap [] := va_S.rf
  have hl := lv_entry ([.ref b]) (n := 7) (Nat.le_of_ble_eq_true rfl)
  rw [lg_entry_eq]
  generalize (lg_sl ([.ref b]) ++ List.replicate (7 - (lg_sl ([.ref b])).length) Slot.unset).toArray = ls at hl ⊢
  have hl : lv_has ls 7 [(0, .ref b)] := hl
  refine va_new (ci := 8) (fs := [.null, .null, .null, .null, .null, .null, .null, .null, .int 0, .int 0]) (C := R_Plan) (T := F_Plan) (N := 10) hx hb hbw in_Plan t_Plan t_Plan_ok hown (hbw _ w_20) (hbw _ w_21) (hbw _ w_1) hK hP hD hS hA rfl (fun j hj => by match j, hj with | 0, _ => rfl | 1, _ => rfl | 2, _ => rfl | 3, _ => rfl | 4, _ => rfl | 5, _ => rfl | 6, _ => rfl | 7, _ => rfl | 8, _ => rfl | 9, _ => rfl) (Nat.le_of_ble_eq_true rfl) (Nat.le_of_ble_eq_true rfl) d_Law_law_0 (fun q H hP hD hS => ?_)
  have hP : va_P (dC, dI) clsA (wi_Plan q) H := hP
  have hD : va_D (fun q => s.heap.size ≤ q) (wi_Plan q) := hD
  refine lv_dup hx hb d_Law_law_3 rfl ?_
  have hFc := va_free (wc := wi_Plan q) hD hS hA [0] rfl
  refine va_callv (va_runI (As := []) (rest := [.ref q]) ⟨hx, hb, hml, hown, hts⟩ (i_Plan l dC dI cI cZ q H.size) (cwI 0 hts (gBW w_24) rfl rfl rfl (hbw _ w_1) (hbw _ w_22) (hbw _ w_23) rfl (by decide +kernel) ⟨Nat.le_of_ble_eq_true rfl, Nat.le_of_ble_eq_true rfl⟩) ⟨cp_blind, fun U hU hW => ⟨rfl, by rw [hU], by rw [hU]; exact hP, va_K.moved hW.alike hK2, hN.warm hW, hD.weaken (fun _ _ _ _ => trivial)⟩⟩ rfl rfl hl.1 rfl (lv_room (Nat.le_of_ble_eq_true rfl)) d_Law_law_4 ⟨Nat.le_of_ble_eq_true rfl, Nat.le_of_ble_eq_true rfl⟩) hS (fun q _ h => hFc q h) hFc (fun u t H1 locs ht hvm hu hB hz1 hk1 hS => ?_)
  obtain ⟨hP1, hD1⟩ := hB
  rw [ht] at hP1
  have hD9 : va_D (fun q => s.heap.size ≤ q) (wC cI cZ u x_0) := hD1.weaken (fun k q _ h => hFc q.1 h)
  clear hP hD hk1 hFc hD1
  subst hu
  have hP := hP1
  have hD := hD9
  clear hP1 hD9
  refine lv_astore_n (lv' := [(1, .ref (u 0)), (0, .ref b)]) hx hb d_Law_law_7 rfl hl (by decide) rfl (fun ls hl => ?_)
  refine va_new (ci := 9) (fs := [.int 0, .int 0, .null, .null, .null, .int 0, .null, .null, .null, .null, .null, .null, .null, .int 0, .int 0, .int 0, .int 0, .null, .null, .null, .int 0, .null, .null, .null, .null, .int 0, .null, .null, .null, .int 0, .int 0]) (C := R_Mod) (T := F_Mod) (N := 31) hx hb hbw in_Mod t_Mod t_Mod_ok hown (hbw _ w_703) (hbw _ w_704) (hbw _ w_10) hK hP hD hS hA rfl (fun j hj => by match j, hj with | 0, _ => rfl | 1, _ => rfl | 2, _ => rfl | 3, _ => rfl | 4, _ => rfl | 5, _ => rfl | 6, _ => rfl | 7, _ => rfl | 8, _ => rfl | 9, _ => rfl | 10, _ => rfl | 11, _ => rfl | 12, _ => rfl | 13, _ => rfl | 14, _ => rfl | 15, _ => rfl | 16, _ => rfl | 17, _ => rfl | 18, _ => rfl | 19, _ => rfl | 20, _ => rfl | 21, _ => rfl | 22, _ => rfl | 23, _ => rfl | 24, _ => rfl | 25, _ => rfl | 26, _ => rfl | 27, _ => rfl | 28, _ => rfl | 29, _ => rfl | 30, _ => rfl | k + 31, hj => exact absurd hj (by omega)) (Nat.le_of_ble_eq_true rfl) (Nat.le_of_ble_eq_true rfl) d_Law_law_8 (fun q2 H hP hD hS => ?_)
  refine lv_dup hx hb d_Law_law_11 rfl ?_
  have hPc := hP.sub (ws' := wi_Mod q2) [29] rfl
  have hDc := hD.sub (ws' := wi_Mod q2) [29] (by decide) rfl
  have hFc := va_free (wc := wi_Mod q2) hD hS hA [29] rfl
  refine va_callv (va_runI (As := []) (rest := [.ref q2]) ⟨hx, hb, hml, hown, hts⟩ (i_Mod l dC dI cI cZ q2 H.size) (cwI 0 hts (gBW w_707) rfl rfl rfl (hbw _ w_10) (hbw _ w_705) (hbw _ w_706) rfl (by decide +kernel) ⟨Nat.le_of_ble_eq_true rfl, Nat.le_of_ble_eq_true rfl⟩) ⟨ci_blind, fun U hU hW => ⟨rfl, by rw [hU], by rw [hU]; exact hPc, va_K.moved hW.alike hK2, hDc.weaken (fun _ _ _ _ => trivial)⟩⟩ rfl rfl hl.1 rfl (lv_room (Nat.le_of_ble_eq_true rfl)) d_Law_law_12 ⟨Nat.le_of_ble_eq_true rfl, Nat.le_of_ble_eq_true rfl⟩) hS (fun q _ h => hFc q h) hFc (fun v t H1 locs ht hvm _ hB hz1 hk1 hS => ?_)
  obtain ⟨hP1, hD1⟩ := hB
  rw [ht] at hP1
  obtain ⟨hP, hD⟩ := va_join (wr := wC cI cZ u x_0) (w1 := wf_Mod cI cZ q2 v) hP hD [29] [0, 1, 2, 3, 4, 5, 6, 7, 8, 9, 10, 11, 12, 13, 14, 15, 16, 17, 18, 19, 20, 21, 22, 23, 24, 25, 26, 27, 28] rfl rfl (by decide) (by decide) hk1 hFc hP1 hD1
  generalize H1 = H at hP hS ⊢
  refine lv_astore_n (lv' := [(2, .ref q2), (1, .ref (u 0)), (0, .ref b)]) hx hb d_Law_law_15 rfl hl (by decide) rfl (fun ls hl => ?_)
  refine lv_iconst (v := 1) hx hb d_Law_law_16 (by decide) ?_
  refine va_newa (atype := .long) (ty := .long) (a0 := (1, .inr (.inl (fun _ => 0)))) (N' := 1) hx hb (hbw _ w_940) rfl hK hP hD hS hA (fun _ => rfl) (by decide) (by decide) (by decide) (Nat.le_of_ble_eq_true rfl) (Nat.le_of_ble_eq_true rfl) d_Law_law_17 (fun q3 cA H hK1 hP hD hS => ?_)
  have eA : cL = cA := Option.some.inj ((va_nm_long (hK.2 2 _ rfl).2).symm.trans (va_nm_long (hK1.2 3 _ rfl).2))
  subst eA
  refine lv_astore_n (lv' := [(3, .ref q3), (2, .ref q2), (1, .ref (u 0)), (0, .ref b)]) hx hb d_Law_law_19 rfl hl (by decide) rfl (fun ls hl => ?_)
  refine lv_iconst (v := 0) hx hb d_Law_law_20 (by decide) ?_
  refine lv_istore (lv' := [(4, .int 0), (3, .ref q3), (2, .ref q2), (1, .ref (u 0)), (0, .ref b)]) hx hb d_Law_law_21 hl (by decide) rfl (fun ls hl => ?_)
  have hPC := hP.sub (ws' := wL cI cZ cL (adO u q3) x_0 (fun _ => 0)) [0, 1, 2, 3, 4, 5, 6, 7, 8, 9, 10, 11, 12, 13, 14, 15, 16, 17, 18, 19, 20, 21, 22, 23, 24, 25, 26, 27, 28, 50] rfl
  have hPR := hP.sub (ws' := wR cI cZ (amM q2 v) z_0) [29, 30, 31, 32, 33, 34, 35, 36, 37, 38, 39, 40, 41, 42, 43, 44, 45, 46, 47, 48, 49] rfl
  have hDa := hD.sub (ws' := wL cI cZ cL (adO u q3) x_0 (fun _ => 0) ++ wR cI cZ (amM q2 v) z_0) [0, 1, 2, 3, 4, 5, 6, 7, 8, 9, 10, 11, 12, 13, 14, 15, 16, 17, 18, 19, 20, 21, 22, 23, 24, 25, 26, 27, 28, 50, 29, 30, 31, 32, 33, 34, 35, 36, 37, 38, 39, 40, 41, 42, 43, 44, 45, 46, 47, 48, 49] (by decide) rfl
  have hdis := D_dis hDa (wL_ad cI cZ cL (adO u q3) x_0 (fun _ => 0)) (wR_ad cI cZ (amM q2 v) z_0)
  obtain ⟨j1, j2⟩ := D_inj (hD.sub (ws' := wL cI cZ cL (adO u q3) x_0 (fun _ => 0)) [0, 1, 2, 3, 4, 5, 6, 7, 8, 9, 10, 11, 12, 13, 14, 15, 16, 17, 18, 19, 20, 21, 22, 23, 24, 25, 26, 27, 28, 50] (by decide) rfl) (wL_ad cI cZ cL (adO u q3) x_0 (fun _ => 0))
  obtain ⟨j3, j4⟩ := D_inj (hD.sub (ws' := wR cI cZ (amM q2 v) z_0) [29, 30, 31, 32, 33, 34, 35, 36, 37, 38, 39, 40, 41, 42, 43, 44, 45, 46, 47, 48, 49] (by decide) rfl) (wR_ad cI cZ (amM q2 v) z_0)
  refine W.widen (k := 51) (n := 2436) (Nat.le_of_ble_eq_true rfl) (Nat.le_of_ble_eq_true rfl) ?_
  exact lw_loop (ad := adO u q3) (am := amM q2 v) (xs := xs) (L := L) (dC := dC) (dI := dI) (cI := cI) (cZ := cZ) (cL := cL) ⟨htr, hx, hb, hret, hml, hown, hts, hX, hbl, hlocks, hL, hE, hK, hN, j1, j3, hdis, j2, j4⟩ 513 0 0 H _ x_0 z_0 (fun _ => 0) ls 51 2436 rfl (by decide) (by decide) (by decide) (by decide) ⟨hPC, hPR, hS, Rel_0⟩ (lv_sub hl [0, 4, 3, 2, 1] rfl)
