/-- z is x but for the costs -/
def co (x z : ST) : Prop := ∃ c, z = s_co x c
theorem co_rf (x : ST) : co x x := ⟨q_co x, rfl⟩
theorem ci_co {x z : ST} (hz : co x z) (hI : CIn x) : CIn z := by
  obtain ⟨c, rfl⟩ := hz
  exact hI
theorem co_lower {x z : ST} (hz : co x z) (a b w v : Int32) : co x (g_Search_lowerCost z a b w v).2 := by
  obtain ⟨c, rfl⟩ := hz
  unfold g_Search_lowerCost
  by_cases h1 : f_Search_isReached (s_co x c) a = 0
  · rw [if_pos h1]; exact ⟨c, rfl⟩
  rw [if_neg h1]
  by_cases h2 : f_Rooms_has (s_co x c) b = 0
  · rw [if_pos h2]; exact ⟨c, rfl⟩
  rw [if_neg h2]
  by_cases h3 : f_Rooms_hasHazardOf (s_co x c) b v = 0
  · rw [if_pos h3]
    by_cases h4 : q_co (s_co x c) a.toNatClampNeg + w < q_co (s_co x c) b.toNatClampNeg
    · rw [if_pos h4]; exact ⟨_, rfl⟩
    · rw [if_neg h4]; exact ⟨c, rfl⟩
  · rw [if_neg h3]; exact ⟨c, rfl⟩
theorem co_dn {x z : ST} (hz : co x z) : q_dn z = q_dn x := by
  obtain ⟨c, rfl⟩ := hz
  rfl
theorem co_rn {x z : ST} (hz : co x z) : q_rn z = q_rn x := by
  obtain ⟨c, rfl⟩ := hz
  rfl
theorem co_tr {x y z : ST} (h : co x y) (h2 : co y z) : co x z := by
  obtain ⟨c, rfl⟩ := h
  obtain ⟨d, rfl⟩ := h2
  exact ⟨d, rfl⟩
def L_Search_spreadOverAllDoors (a1 : Int32) : Nat → Int32 → Int32 → ST → Int32 × ST
  | 0, _, _, z => (0, z)
  | k + 1, ch, i, z => if (q_dn z) ≤ i then (ch, z) else (if (f_Search_isPassed z i) = 0 then L_Search_spreadOverAllDoors a1 k ch (i + 1) z else (if ch = 0 then (if ((g_Search_lowerCost ((g_Search_lowerCost z (f_Doors_firstRoomOf z i) (f_Doors_secondRoomOf z i) (f_Doors_costOf z i) a1).2) (f_Doors_secondRoomOf z i) (f_Doors_firstRoomOf z i) (f_Doors_costOf z i) a1).1) = 0 then (if ((g_Search_lowerCost z (f_Doors_firstRoomOf z i) (f_Doors_secondRoomOf z i) (f_Doors_costOf z i) a1).1) = 0 then L_Search_spreadOverAllDoors a1 k 0 (i + 1) ((g_Search_lowerCost ((g_Search_lowerCost z (f_Doors_firstRoomOf z i) (f_Doors_secondRoomOf z i) (f_Doors_costOf z i) a1).2) (f_Doors_secondRoomOf z i) (f_Doors_firstRoomOf z i) (f_Doors_costOf z i) a1).2) else L_Search_spreadOverAllDoors a1 k 1 (i + 1) ((g_Search_lowerCost ((g_Search_lowerCost z (f_Doors_firstRoomOf z i) (f_Doors_secondRoomOf z i) (f_Doors_costOf z i) a1).2) (f_Doors_secondRoomOf z i) (f_Doors_firstRoomOf z i) (f_Doors_costOf z i) a1).2)) else L_Search_spreadOverAllDoors a1 k 1 (i + 1) ((g_Search_lowerCost ((g_Search_lowerCost z (f_Doors_firstRoomOf z i) (f_Doors_secondRoomOf z i) (f_Doors_costOf z i) a1).2) (f_Doors_secondRoomOf z i) (f_Doors_firstRoomOf z i) (f_Doors_costOf z i) a1).2)) else L_Search_spreadOverAllDoors a1 k 1 (i + 1) ((g_Search_lowerCost ((g_Search_lowerCost z (f_Doors_firstRoomOf z i) (f_Doors_secondRoomOf z i) (f_Doors_costOf z i) a1).2) (f_Doors_secondRoomOf z i) (f_Doors_firstRoomOf z i) (f_Doors_costOf z i) a1).2)))
theorem L_Search_spreadOverAllDoors_s (a1 : Int32) (k : Nat) (ch i : Int32) (z : ST) : L_Search_spreadOverAllDoors a1 (k + 1) ch i z = if (q_dn z) ≤ i then (ch, z) else (if (f_Search_isPassed z i) = 0 then L_Search_spreadOverAllDoors a1 k ch (i + 1) z else (if ch = 0 then (if ((g_Search_lowerCost ((g_Search_lowerCost z (f_Doors_firstRoomOf z i) (f_Doors_secondRoomOf z i) (f_Doors_costOf z i) a1).2) (f_Doors_secondRoomOf z i) (f_Doors_firstRoomOf z i) (f_Doors_costOf z i) a1).1) = 0 then (if ((g_Search_lowerCost z (f_Doors_firstRoomOf z i) (f_Doors_secondRoomOf z i) (f_Doors_costOf z i) a1).1) = 0 then L_Search_spreadOverAllDoors a1 k 0 (i + 1) ((g_Search_lowerCost ((g_Search_lowerCost z (f_Doors_firstRoomOf z i) (f_Doors_secondRoomOf z i) (f_Doors_costOf z i) a1).2) (f_Doors_secondRoomOf z i) (f_Doors_firstRoomOf z i) (f_Doors_costOf z i) a1).2) else L_Search_spreadOverAllDoors a1 k 1 (i + 1) ((g_Search_lowerCost ((g_Search_lowerCost z (f_Doors_firstRoomOf z i) (f_Doors_secondRoomOf z i) (f_Doors_costOf z i) a1).2) (f_Doors_secondRoomOf z i) (f_Doors_firstRoomOf z i) (f_Doors_costOf z i) a1).2)) else L_Search_spreadOverAllDoors a1 k 1 (i + 1) ((g_Search_lowerCost ((g_Search_lowerCost z (f_Doors_firstRoomOf z i) (f_Doors_secondRoomOf z i) (f_Doors_costOf z i) a1).2) (f_Doors_secondRoomOf z i) (f_Doors_firstRoomOf z i) (f_Doors_costOf z i) a1).2)) else L_Search_spreadOverAllDoors a1 k 1 (i + 1) ((g_Search_lowerCost ((g_Search_lowerCost z (f_Doors_firstRoomOf z i) (f_Doors_secondRoomOf z i) (f_Doors_costOf z i) a1).2) (f_Doors_secondRoomOf z i) (f_Doors_firstRoomOf z i) (f_Doors_costOf z i) a1).2))) := rfl
def g_Search_spreadOverAllDoors (x : ST) (a1 : Int32) : Int32 × ST := L_Search_spreadOverAllDoors a1 81 0 0 x
set_option maxHeartbeats 400000 in
set_option maxRecDepth 100000 in
theorem u_Search_spreadOverAllDoors (l : Launch) (dC : Nat → ClassId) (dI : Nat → Nat → Nat) (cI cZ : ClassId) (ad : Nat → Nat) (hj : aInj 29 ad) (x : ST) (hI : CIn x) (sz : Nat) (a1 : Int32) : MX l y_Search_spreadOverAllDoors (Cond.code y_Search_spreadOverAllDoors b_Search_spreadOverAllDoors 9 (some .boolean) :: BW) { frames := 3, cells := 0, slots := 0, locals := 68 } (PCZ sz (dC, dI) [(cI, .int), (cZ, .boolean)] (wC cI cZ ad x) [.ref (ad 4), .int a1]) (UQ (some (.int (g_Search_spreadOverAllDoors x a1).1)) (WB (dC, dI) [(cI, .int), (cZ, .boolean)] (wC cI cZ ad (g_Search_spreadOverAllDoors x a1).2)) (aC 29 ad sz)) 0 0 (aC 29 ad sz) := by
  refine MX.ofW (cc := b_Search_spreadOverAllDoors) (maxL := 9) (ret := (some .boolean)) (by decide) rfl ?_
  intro p e s m args below meth c s₁ B hml hex hv
  obtain ⟨hsz, rfl, hP, hK, hN⟩ := hv
  subst hsz
  have hx := B.exec
  have hb := B.bytes
  have hr := B.returns
  have hts := atoms_spec (ws := Cond.code y_Search_spreadOverAllDoors b_Search_spreadOverAllDoors 9 (some .boolean) :: BW) B.pre
  have hbw : ∀ w ∈ BW, w.before ([.ref (ad 4), .int a1]).toArray s = true := fun w h => hts w (List.mem_cons_of_mem _ h)
  have hown : s.vm.findClass "PlanRows$Search" = some m.cls := findClass_of_methodNamed B.named
  have hlocks := B.notSynchronized
  have hDx : ∀ z, va_D (aC 29 ad s.heap.size) (wC cI cZ ad z) := fun z => w_D hj (wC_ad cI cZ ad z) _
  have hA : ∀ H : Heap, s.heap.size ≤ H.size → ∀ q, aC 29 ad H.size q → aC 29 ad s.heap.size q := fun H h => aC_le h
  generalize aC 29 ad s.heap.size = A at hDx hA ⊢
  have hD := hDx x
  have hS : va_S A s.heap s.heap [] := va_S.rf
  have hI0 := hI
  have hl := lv_entry ([.ref (ad 4), .int a1]) (n := 9) (Nat.le_of_ble_eq_true rfl)
  rw [lg_entry_eq]
  generalize (lg_sl ([.ref (ad 4), .int a1]) ++ List.replicate (9 - (lg_sl ([.ref (ad 4), .int a1])).length) Slot.unset).toArray = ls at hl ⊢
  obtain ⟨H, hH⟩ : ∃ H, H = s.heap := ⟨_, rfl⟩
  obtain ⟨locs, hlocs⟩ : ∃ locs : List Loc, locs = [] := ⟨_, rfl⟩
  have hP : va_P (dC, dI) clsA (wC cI cZ ad x) H := by rw [hH]; exact hP
  have hS : va_S A s.heap H locs := by rw [hH, hlocs]; exact hS
  rw [← hlocs]
  have hW0 : ∀ (R : Room) (Q : State → Prop) (g : JFrame), W p l e R s m ([.ref (ad 4), .int a1]).toArray below meth c H locs 0 0 Q g → W p l e R s m ([.ref (ad 4), .int a1]).toArray below meth c s.heap locs 0 0 Q g := fun R Q g h => by rw [← hH]; exact h
  refine hW0 _ _ _ ?_
  have hl : lv_has ls 9 [(0, .ref (ad 4)), (1, .int a1)] := hl
  refine lv_iconst (v := 0) hx hb d_Search_spreadOverAllDoors_0 (by decide) ?_
  refine lv_istore_n (lv' := [(2, .int 0), (0, .ref (ad 4)), (1, .int a1)]) hx hb d_Search_spreadOverAllDoors_1 rfl hl (by decide) rfl (fun ls hl => ?_)
  refine lv_iconst (v := 0) hx hb d_Search_spreadOverAllDoors_2 (by decide) ?_
  refine lv_istore_n (lv' := [(3, .int 0), (2, .int 0), (0, .ref (ad 4)), (1, .int a1)]) hx hb d_Search_spreadOverAllDoors_3 rfl hl (by decide) rfl (fun ls hl => ?_)
  have loop : ∀ (k : Nat) (ch i : Int32) (z : ST) (ls : Array Slot) (H : Heap) (locs : List Loc), (ch = 0 ∨ ch = 1) ∧ 0 ≤ i.toInt ∧ i.toInt ≤ (q_dn x).toInt ∧ (q_dn x).toInt - i.toInt < ((k : Nat) : Int) → co x z → g_Search_spreadOverAllDoors x a1 = L_Search_spreadOverAllDoors a1 k ch i z → va_P (dC, dI) clsA (wC cI cZ ad z) H → va_S A s.heap H locs → lv_has ls 9 [(3, .int i), (2, .int ch), (0, .ref (ad 4)), (1, .int a1)] → W p l e { frames := 3, cells := 0, slots := 0, locals := 68 } s m ([.ref (ad 4), .int a1]).toArray below meth c H locs 0 0 (MQX below (UQ (some (.int (g_Search_spreadOverAllDoors x a1).1)) (WB (dC, dI) [(cI, .int), (cZ, .boolean)] (wC cI cZ ad (g_Search_spreadOverAllDoors x a1).2)) A) ([.ref (ad 4), .int a1]).toArray s 0 0 A) (F0 m 4 ls []) := by
    intro k
    induction k with
    | zero =>
      intro ch i z ls H locs hi hz hq hP hS hl
      obtain ⟨-, h1, h2, h3⟩ := hi
      omega
    | succ k ih =>
      intro ch i z ls H locs hi hz hq hP hS hl
      have hq := hq.trans (L_Search_spreadOverAllDoors_s a1 k ch i z)
      have hI := (ci_co hz hI0)
      have hD := hDx z
      refine lv_iload_n hx hb d_Search_spreadOverAllDoors_4 rfl (lv_at hl 0 rfl) ?_
      refine lv_aload_n hx hb d_Search_spreadOverAllDoors_5 rfl (lv_at hl 2 rfl) ?_
      refine va_get (D := (dC, dI)) (ci := 6) (v := .ref (ad 2)) (C := R_Search) (T := F_Search) (N := 4) hx hb hbw in_Search hown hK hP 4 rfl rfl 1 (by decide) (hbw _ w_96) (fun _ h9 => h9) rfl d_Search_spreadOverAllDoors_6 ?_
      refine va_getN (D := (dC, dI)) (ci := 2) (v := .int (q_dn z)) (C := R_Doors) (T := F_Doors) (N := 5) hx hb hbw in_Doors hown hK hP 2 rfl rfl 4 (by decide) (va_Nw.use rfl (hN _ nw_4)) (fun _ h9 => h9) rfl d_Search_spreadOverAllDoors_9 ?_
      refine lv_icmp_ge (tgt := 105) hx hb d_Search_spreadOverAllDoors_12 (by decide) (fun c_1 => ?_) (fun c_1 => ?_)
      · refine lv_iload_n hx hb d_Search_spreadOverAllDoors_105 rfl (lv_at hl 1 rfl) ?_
        have hg : g_Search_spreadOverAllDoors x a1 = (ch, z) := by rw [hq, if_pos c_1]
        exact W.toX (W.zret (v := ch) (ty := .boolean) hx hb hr (by rcases hi.1 with h | h <;> rw [h] <;> rfl) (fun t ht hW => ⟨by rw [hg], ⟨by rw [ht, hg]; exact hP, va_K.moved hW.alike hK, hN.warm hW⟩, hS.F ht⟩) hS.2.2 d_Search_spreadOverAllDoors_106)
      · refine lv_aload_n hx hb d_Search_spreadOverAllDoors_15 rfl (lv_at hl 2 rfl) ?_
        refine lv_iload_n hx hb d_Search_spreadOverAllDoors_16 rfl (lv_at hl 0 rfl) ?_
        refine xv (As := [.int i]) (rest := []) (C := "PlanRows$Search") ⟨hx, hb, hml, hown, hts⟩ (c_Search_isPassed l dC dI cI cZ ad z hI i) (cw_Search_57 hts rfl rfl ⟨Nat.le_of_ble_eq_true rfl, Nat.le_of_ble_eq_true rfl⟩) hK hN hP 4 rfl rfl rfl rfl hl.1 rfl (Nat.le_of_ble_eq_true rfl) d_Search_spreadOverAllDoors_17 ⟨Nat.zero_le _, Nat.zero_le _⟩ ?_
        refine lv_if_eq (tgt := 99) hx hb d_Search_spreadOverAllDoors_20 (by decide) (fun c_2 => ?_) (fun c_2 => ?_)
        · refine lv_iinc (v := i + 1) (lv' := [(3, .int (i + 1)), (2, .int ch), (0, .ref (ad 4)), (1, .int a1)]) hx hb d_Search_spreadOverAllDoors_99 hl (k := 0) rfl rfl (by decide) rfl (fun ls hl => ?_)
          refine lv_goto (tgt := 4) hx hb d_Search_spreadOverAllDoors_102 (by decide) ?_
          exact ih ch (i + 1) z ls H locs ⟨hi.1, lp_inc hi.2 (by rw [← co_dn hz]; exact c_1) hI0.2.1.2 (by decide)⟩ hz (by rw [hq, if_neg c_1, if_pos c_2]) hP hS (lv_sub hl [0, 1, 2, 3] rfl)
        · refine lv_aload_n hx hb d_Search_spreadOverAllDoors_23 rfl (lv_at hl 2 rfl) ?_
          refine va_get (D := (dC, dI)) (ci := 6) (v := .ref (ad 2)) (C := R_Search) (T := F_Search) (N := 4) hx hb hbw in_Search hown hK hP 4 rfl rfl 1 (by decide) (hbw _ w_96) (fun _ h9 => h9) rfl d_Search_spreadOverAllDoors_24 ?_
          refine lv_iload_n hx hb d_Search_spreadOverAllDoors_27 rfl (lv_at hl 0 rfl) ?_
          refine xv (As := [.int i]) (rest := []) (C := "PlanRows$Doors") ⟨hx, hb, hml, hown, hts⟩ (c_Doors_firstRoomOf l dC dI cI cZ ad z hI i) (cw_Search_60 hts rfl rfl ⟨Nat.le_of_ble_eq_true rfl, Nat.le_of_ble_eq_true rfl⟩) hK hN hP 2 rfl rfl rfl rfl hl.1 rfl (Nat.le_of_ble_eq_true rfl) d_Search_spreadOverAllDoors_28 ⟨Nat.zero_le _, Nat.zero_le _⟩ ?_
          refine lv_istore (lv' := [(4, .int (f_Doors_firstRoomOf z i)), (3, .int i), (2, .int ch), (0, .ref (ad 4)), (1, .int a1)]) hx hb d_Search_spreadOverAllDoors_31 hl (by decide) rfl (fun ls hl => ?_)
          refine lv_aload_n hx hb d_Search_spreadOverAllDoors_33 rfl (lv_at hl 3 rfl) ?_
          refine va_get (D := (dC, dI)) (ci := 6) (v := .ref (ad 2)) (C := R_Search) (T := F_Search) (N := 4) hx hb hbw in_Search hown hK hP 4 rfl rfl 1 (by decide) (hbw _ w_96) (fun _ h9 => h9) rfl d_Search_spreadOverAllDoors_34 ?_
          refine lv_iload_n hx hb d_Search_spreadOverAllDoors_37 rfl (lv_at hl 1 rfl) ?_
          refine xv (As := [.int i]) (rest := []) (C := "PlanRows$Doors") ⟨hx, hb, hml, hown, hts⟩ (c_Doors_secondRoomOf l dC dI cI cZ ad z hI i) (cw_Search_64 hts rfl rfl ⟨Nat.le_of_ble_eq_true rfl, Nat.le_of_ble_eq_true rfl⟩) hK hN hP 2 rfl rfl rfl rfl hl.1 rfl (Nat.le_of_ble_eq_true rfl) d_Search_spreadOverAllDoors_38 ⟨Nat.zero_le _, Nat.zero_le _⟩ ?_
          refine lv_istore (lv' := [(5, .int (f_Doors_secondRoomOf z i)), (4, .int (f_Doors_firstRoomOf z i)), (3, .int i), (2, .int ch), (0, .ref (ad 4)), (1, .int a1)]) hx hb d_Search_spreadOverAllDoors_41 hl (by decide) rfl (fun ls hl => ?_)
          refine lv_aload_n hx hb d_Search_spreadOverAllDoors_43 rfl (lv_at hl 4 rfl) ?_
          refine va_get (D := (dC, dI)) (ci := 6) (v := .ref (ad 2)) (C := R_Search) (T := F_Search) (N := 4) hx hb hbw in_Search hown hK hP 4 rfl rfl 1 (by decide) (hbw _ w_96) (fun _ h9 => h9) rfl d_Search_spreadOverAllDoors_44 ?_
          refine lv_iload_n hx hb d_Search_spreadOverAllDoors_47 rfl (lv_at hl 2 rfl) ?_
          refine xv (As := [.int i]) (rest := []) (C := "PlanRows$Doors") ⟨hx, hb, hml, hown, hts⟩ (c_Doors_costOf l dC dI cI cZ ad z hI i) (cw_Search_67 hts rfl rfl ⟨Nat.le_of_ble_eq_true rfl, Nat.le_of_ble_eq_true rfl⟩) hK hN hP 2 rfl rfl rfl rfl hl.1 rfl (Nat.le_of_ble_eq_true rfl) d_Search_spreadOverAllDoors_48 ⟨Nat.zero_le _, Nat.zero_le _⟩ ?_
          refine lv_istore (lv' := [(6, .int (f_Doors_costOf z i)), (5, .int (f_Doors_secondRoomOf z i)), (4, .int (f_Doors_firstRoomOf z i)), (3, .int i), (2, .int ch), (0, .ref (ad 4)), (1, .int a1)]) hx hb d_Search_spreadOverAllDoors_51 hl (by decide) rfl (fun ls hl => ?_)
          refine lv_aload_n hx hb d_Search_spreadOverAllDoors_53 rfl (lv_at hl 5 rfl) ?_
          refine lv_iload hx hb d_Search_spreadOverAllDoors_54 (lv_at hl 2 rfl) ?_
          refine lv_iload hx hb d_Search_spreadOverAllDoors_56 (lv_at hl 1 rfl) ?_
          refine lv_iload hx hb d_Search_spreadOverAllDoors_58 (lv_at hl 0 rfl) ?_
          refine lv_iload_n hx hb d_Search_spreadOverAllDoors_60 rfl (lv_at hl 6 rfl) ?_
          refine x_upd (x_runV (C := "PlanRows$Search") (b := (ad 4)) (As := [.int (f_Doors_firstRoomOf z i), .int (f_Doors_secondRoomOf z i), .int (f_Doors_costOf z i), .int a1]) (rest := []) ⟨hx, hb, hml, hown, hts⟩ (u_Search_lowerCost l dC dI cI cZ ad hj z hI H.size (f_Doors_firstRoomOf z i) (f_Doors_secondRoomOf z i) (f_Doors_costOf z i) a1) (cw_Search_70 hts rfl rfl ⟨Nat.le_of_ble_eq_true rfl, Nat.le_of_ble_eq_true rfl⟩) ⟨PCZ.blind, va_recv hK hP (ci := 6) (q0 := 4) rfl rfl, PCZ.at hK hN hP⟩ rfl rfl hl.1 rfl (lv_room (Nat.le_of_ble_eq_true rfl)) d_Search_spreadOverAllDoors_61 ⟨Nat.zero_le _, Nat.zero_le _⟩) hS (fun q _ h => hA H hS.1 q h) (fun q h => hA H hS.1 q h) (fun t H1 locs ht hW hB hz1 hk1 hS => ?_)
          obtain ⟨hP, -, -⟩ := hB
          rw [ht] at hP
          generalize H1 = H at hP hS ⊢
          have hD : va_D A (wC cI cZ ad ((g_Search_lowerCost z (f_Doors_firstRoomOf z i) (f_Doors_secondRoomOf z i) (f_Doors_costOf z i) a1).2)) := hDx _
          have hI : CIn ((g_Search_lowerCost z (f_Doors_firstRoomOf z i) (f_Doors_secondRoomOf z i) (f_Doors_costOf z i) a1).2) := ci_co (co_lower hz _ _ _ _) hI0
          refine lv_istore (lv' := [(7, .int ((g_Search_lowerCost z (f_Doors_firstRoomOf z i) (f_Doors_secondRoomOf z i) (f_Doors_costOf z i) a1).1)), (6, .int (f_Doors_costOf z i)), (5, .int (f_Doors_secondRoomOf z i)), (4, .int (f_Doors_firstRoomOf z i)), (3, .int i), (2, .int ch), (0, .ref (ad 4)), (1, .int a1)]) hx hb d_Search_spreadOverAllDoors_64 hl (by decide) rfl (fun ls hl => ?_)
          refine lv_aload_n hx hb d_Search_spreadOverAllDoors_66 rfl (lv_at hl 6 rfl) ?_
          refine lv_iload hx hb d_Search_spreadOverAllDoors_67 (lv_at hl 2 rfl) ?_
          refine lv_iload hx hb d_Search_spreadOverAllDoors_69 (lv_at hl 3 rfl) ?_
          refine lv_iload hx hb d_Search_spreadOverAllDoors_71 (lv_at hl 1 rfl) ?_
          refine lv_iload_n hx hb d_Search_spreadOverAllDoors_73 rfl (lv_at hl 7 rfl) ?_
          refine x_upd (x_runV (C := "PlanRows$Search") (b := (ad 4)) (As := [.int (f_Doors_secondRoomOf z i), .int (f_Doors_firstRoomOf z i), .int (f_Doors_costOf z i), .int a1]) (rest := []) ⟨hx, hb, hml, hown, hts⟩ (u_Search_lowerCost l dC dI cI cZ ad hj ((g_Search_lowerCost z (f_Doors_firstRoomOf z i) (f_Doors_secondRoomOf z i) (f_Doors_costOf z i) a1).2) hI H.size (f_Doors_secondRoomOf z i) (f_Doors_firstRoomOf z i) (f_Doors_costOf z i) a1) (cw_Search_70 hts rfl rfl ⟨Nat.le_of_ble_eq_true rfl, Nat.le_of_ble_eq_true rfl⟩) ⟨PCZ.blind, va_recv hK hP (ci := 6) (q0 := 4) rfl rfl, PCZ.at hK hN hP⟩ rfl rfl hl.1 rfl (lv_room (Nat.le_of_ble_eq_true rfl)) d_Search_spreadOverAllDoors_74 ⟨Nat.zero_le _, Nat.zero_le _⟩) hS (fun q _ h => hA H hS.1 q h) (fun q h => hA H hS.1 q h) (fun t H1 locs ht hW hB hz1 hk1 hS => ?_)
          obtain ⟨hP, -, -⟩ := hB
          rw [ht] at hP
          generalize H1 = H at hP hS ⊢
          have hD : va_D A (wC cI cZ ad ((g_Search_lowerCost ((g_Search_lowerCost z (f_Doors_firstRoomOf z i) (f_Doors_secondRoomOf z i) (f_Doors_costOf z i) a1).2) (f_Doors_secondRoomOf z i) (f_Doors_firstRoomOf z i) (f_Doors_costOf z i) a1).2)) := hDx _
          have hI : CIn ((g_Search_lowerCost ((g_Search_lowerCost z (f_Doors_firstRoomOf z i) (f_Doors_secondRoomOf z i) (f_Doors_costOf z i) a1).2) (f_Doors_secondRoomOf z i) (f_Doors_firstRoomOf z i) (f_Doors_costOf z i) a1).2) := ci_co (co_lower (co_lower hz _ _ _ _) _ _ _ _) hI0
          refine lv_istore (lv' := [(8, .int ((g_Search_lowerCost ((g_Search_lowerCost z (f_Doors_firstRoomOf z i) (f_Doors_secondRoomOf z i) (f_Doors_costOf z i) a1).2) (f_Doors_secondRoomOf z i) (f_Doors_firstRoomOf z i) (f_Doors_costOf z i) a1).1)), (7, .int ((g_Search_lowerCost z (f_Doors_firstRoomOf z i) (f_Doors_secondRoomOf z i) (f_Doors_costOf z i) a1).1)), (6, .int (f_Doors_costOf z i)), (5, .int (f_Doors_secondRoomOf z i)), (4, .int (f_Doors_firstRoomOf z i)), (3, .int i), (2, .int ch), (0, .ref (ad 4)), (1, .int a1)]) hx hb d_Search_spreadOverAllDoors_77 hl (by decide) rfl (fun ls hl => ?_)
          refine lv_iload_n hx hb d_Search_spreadOverAllDoors_79 rfl (lv_at hl 6 rfl) ?_
          refine lv_if_ne (tgt := 93) hx hb d_Search_spreadOverAllDoors_80 (by decide) (fun c_3 => ?_) (fun c_3 => ?_)
          · refine lv_iconst (v := 1) hx hb d_Search_spreadOverAllDoors_93 (by decide) ?_
            refine lv_goto (tgt := 98) hx hb d_Search_spreadOverAllDoors_94 (by decide) ?_
            refine lv_istore_n (lv' := [(2, .int 1), (8, .int ((g_Search_lowerCost ((g_Search_lowerCost z (f_Doors_firstRoomOf z i) (f_Doors_secondRoomOf z i) (f_Doors_costOf z i) a1).2) (f_Doors_secondRoomOf z i) (f_Doors_firstRoomOf z i) (f_Doors_costOf z i) a1).1)), (7, .int ((g_Search_lowerCost z (f_Doors_firstRoomOf z i) (f_Doors_secondRoomOf z i) (f_Doors_costOf z i) a1).1)), (6, .int (f_Doors_costOf z i)), (5, .int (f_Doors_secondRoomOf z i)), (4, .int (f_Doors_firstRoomOf z i)), (3, .int i), (0, .ref (ad 4)), (1, .int a1)]) hx hb d_Search_spreadOverAllDoors_98 rfl hl (by decide) rfl (fun ls hl => ?_)
            refine lv_iinc (v := i + 1) (lv' := [(3, .int (i + 1)), (2, .int 1), (8, .int ((g_Search_lowerCost ((g_Search_lowerCost z (f_Doors_firstRoomOf z i) (f_Doors_secondRoomOf z i) (f_Doors_costOf z i) a1).2) (f_Doors_secondRoomOf z i) (f_Doors_firstRoomOf z i) (f_Doors_costOf z i) a1).1)), (7, .int ((g_Search_lowerCost z (f_Doors_firstRoomOf z i) (f_Doors_secondRoomOf z i) (f_Doors_costOf z i) a1).1)), (6, .int (f_Doors_costOf z i)), (5, .int (f_Doors_secondRoomOf z i)), (4, .int (f_Doors_firstRoomOf z i)), (0, .ref (ad 4)), (1, .int a1)]) hx hb d_Search_spreadOverAllDoors_99 hl (k := 6) rfl rfl (by decide) rfl (fun ls hl => ?_)
            refine lv_goto (tgt := 4) hx hb d_Search_spreadOverAllDoors_102 (by decide) ?_
            exact ih 1 (i + 1) ((g_Search_lowerCost ((g_Search_lowerCost z (f_Doors_firstRoomOf z i) (f_Doors_secondRoomOf z i) (f_Doors_costOf z i) a1).2) (f_Doors_secondRoomOf z i) (f_Doors_firstRoomOf z i) (f_Doors_costOf z i) a1).2) ls H locs ⟨Or.inr rfl, lp_inc hi.2 (by rw [← co_dn hz]; exact c_1) hI0.2.1.2 (by decide)⟩ (co_lower (co_lower hz _ _ _ _) _ _ _ _) (by rw [hq, if_neg c_1, if_neg c_2, if_neg c_3]) hP hS (lv_sub hl [0, 1, 7, 8] rfl)
          · refine lv_iload hx hb d_Search_spreadOverAllDoors_83 (lv_at hl 0 rfl) ?_
            refine lv_if_ne (tgt := 93) hx hb d_Search_spreadOverAllDoors_85 (by decide) (fun c_4 => ?_) (fun c_4 => ?_)
            · refine lv_iconst (v := 1) hx hb d_Search_spreadOverAllDoors_93 (by decide) ?_
              refine lv_goto (tgt := 98) hx hb d_Search_spreadOverAllDoors_94 (by decide) ?_
              refine lv_istore_n (lv' := [(2, .int 1), (8, .int ((g_Search_lowerCost ((g_Search_lowerCost z (f_Doors_firstRoomOf z i) (f_Doors_secondRoomOf z i) (f_Doors_costOf z i) a1).2) (f_Doors_secondRoomOf z i) (f_Doors_firstRoomOf z i) (f_Doors_costOf z i) a1).1)), (7, .int ((g_Search_lowerCost z (f_Doors_firstRoomOf z i) (f_Doors_secondRoomOf z i) (f_Doors_costOf z i) a1).1)), (6, .int (f_Doors_costOf z i)), (5, .int (f_Doors_secondRoomOf z i)), (4, .int (f_Doors_firstRoomOf z i)), (3, .int i), (0, .ref (ad 4)), (1, .int a1)]) hx hb d_Search_spreadOverAllDoors_98 rfl hl (by decide) rfl (fun ls hl => ?_)
              refine lv_iinc (v := i + 1) (lv' := [(3, .int (i + 1)), (2, .int 1), (8, .int ((g_Search_lowerCost ((g_Search_lowerCost z (f_Doors_firstRoomOf z i) (f_Doors_secondRoomOf z i) (f_Doors_costOf z i) a1).2) (f_Doors_secondRoomOf z i) (f_Doors_firstRoomOf z i) (f_Doors_costOf z i) a1).1)), (7, .int ((g_Search_lowerCost z (f_Doors_firstRoomOf z i) (f_Doors_secondRoomOf z i) (f_Doors_costOf z i) a1).1)), (6, .int (f_Doors_costOf z i)), (5, .int (f_Doors_secondRoomOf z i)), (4, .int (f_Doors_firstRoomOf z i)), (0, .ref (ad 4)), (1, .int a1)]) hx hb d_Search_spreadOverAllDoors_99 hl (k := 6) rfl rfl (by decide) rfl (fun ls hl => ?_)
              refine lv_goto (tgt := 4) hx hb d_Search_spreadOverAllDoors_102 (by decide) ?_
              exact ih 1 (i + 1) ((g_Search_lowerCost ((g_Search_lowerCost z (f_Doors_firstRoomOf z i) (f_Doors_secondRoomOf z i) (f_Doors_costOf z i) a1).2) (f_Doors_secondRoomOf z i) (f_Doors_firstRoomOf z i) (f_Doors_costOf z i) a1).2) ls H locs ⟨Or.inr rfl, lp_inc hi.2 (by rw [← co_dn hz]; exact c_1) hI0.2.1.2 (by decide)⟩ (co_lower (co_lower hz _ _ _ _) _ _ _ _) (by rw [hq, if_neg c_1, if_neg c_2, if_pos c_3, if_neg c_4]) hP hS (lv_sub hl [0, 1, 7, 8] rfl)
            · refine lv_iload hx hb d_Search_spreadOverAllDoors_88 (lv_at hl 1 rfl) ?_
              refine lv_if_eq (tgt := 97) hx hb d_Search_spreadOverAllDoors_90 (by decide) (fun c_5 => ?_) (fun c_5 => ?_)
              · refine lv_iconst (v := 0) hx hb d_Search_spreadOverAllDoors_97 (by decide) ?_
                refine lv_istore_n (lv' := [(2, .int 0), (8, .int ((g_Search_lowerCost ((g_Search_lowerCost z (f_Doors_firstRoomOf z i) (f_Doors_secondRoomOf z i) (f_Doors_costOf z i) a1).2) (f_Doors_secondRoomOf z i) (f_Doors_firstRoomOf z i) (f_Doors_costOf z i) a1).1)), (7, .int ((g_Search_lowerCost z (f_Doors_firstRoomOf z i) (f_Doors_secondRoomOf z i) (f_Doors_costOf z i) a1).1)), (6, .int (f_Doors_costOf z i)), (5, .int (f_Doors_secondRoomOf z i)), (4, .int (f_Doors_firstRoomOf z i)), (3, .int i), (0, .ref (ad 4)), (1, .int a1)]) hx hb d_Search_spreadOverAllDoors_98 rfl hl (by decide) rfl (fun ls hl => ?_)
                refine lv_iinc (v := i + 1) (lv' := [(3, .int (i + 1)), (2, .int 0), (8, .int ((g_Search_lowerCost ((g_Search_lowerCost z (f_Doors_firstRoomOf z i) (f_Doors_secondRoomOf z i) (f_Doors_costOf z i) a1).2) (f_Doors_secondRoomOf z i) (f_Doors_firstRoomOf z i) (f_Doors_costOf z i) a1).1)), (7, .int ((g_Search_lowerCost z (f_Doors_firstRoomOf z i) (f_Doors_secondRoomOf z i) (f_Doors_costOf z i) a1).1)), (6, .int (f_Doors_costOf z i)), (5, .int (f_Doors_secondRoomOf z i)), (4, .int (f_Doors_firstRoomOf z i)), (0, .ref (ad 4)), (1, .int a1)]) hx hb d_Search_spreadOverAllDoors_99 hl (k := 6) rfl rfl (by decide) rfl (fun ls hl => ?_)
                refine lv_goto (tgt := 4) hx hb d_Search_spreadOverAllDoors_102 (by decide) ?_
                exact ih 0 (i + 1) ((g_Search_lowerCost ((g_Search_lowerCost z (f_Doors_firstRoomOf z i) (f_Doors_secondRoomOf z i) (f_Doors_costOf z i) a1).2) (f_Doors_secondRoomOf z i) (f_Doors_firstRoomOf z i) (f_Doors_costOf z i) a1).2) ls H locs ⟨Or.inl rfl, lp_inc hi.2 (by rw [← co_dn hz]; exact c_1) hI0.2.1.2 (by decide)⟩ (co_lower (co_lower hz _ _ _ _) _ _ _ _) (by rw [hq, if_neg c_1, if_neg c_2, if_pos c_3, if_pos c_4, if_pos c_5]) hP hS (lv_sub hl [0, 1, 7, 8] rfl)
              · refine lv_iconst (v := 1) hx hb d_Search_spreadOverAllDoors_93 (by decide) ?_
                refine lv_goto (tgt := 98) hx hb d_Search_spreadOverAllDoors_94 (by decide) ?_
                refine lv_istore_n (lv' := [(2, .int 1), (8, .int ((g_Search_lowerCost ((g_Search_lowerCost z (f_Doors_firstRoomOf z i) (f_Doors_secondRoomOf z i) (f_Doors_costOf z i) a1).2) (f_Doors_secondRoomOf z i) (f_Doors_firstRoomOf z i) (f_Doors_costOf z i) a1).1)), (7, .int ((g_Search_lowerCost z (f_Doors_firstRoomOf z i) (f_Doors_secondRoomOf z i) (f_Doors_costOf z i) a1).1)), (6, .int (f_Doors_costOf z i)), (5, .int (f_Doors_secondRoomOf z i)), (4, .int (f_Doors_firstRoomOf z i)), (3, .int i), (0, .ref (ad 4)), (1, .int a1)]) hx hb d_Search_spreadOverAllDoors_98 rfl hl (by decide) rfl (fun ls hl => ?_)
                refine lv_iinc (v := i + 1) (lv' := [(3, .int (i + 1)), (2, .int 1), (8, .int ((g_Search_lowerCost ((g_Search_lowerCost z (f_Doors_firstRoomOf z i) (f_Doors_secondRoomOf z i) (f_Doors_costOf z i) a1).2) (f_Doors_secondRoomOf z i) (f_Doors_firstRoomOf z i) (f_Doors_costOf z i) a1).1)), (7, .int ((g_Search_lowerCost z (f_Doors_firstRoomOf z i) (f_Doors_secondRoomOf z i) (f_Doors_costOf z i) a1).1)), (6, .int (f_Doors_costOf z i)), (5, .int (f_Doors_secondRoomOf z i)), (4, .int (f_Doors_firstRoomOf z i)), (0, .ref (ad 4)), (1, .int a1)]) hx hb d_Search_spreadOverAllDoors_99 hl (k := 6) rfl rfl (by decide) rfl (fun ls hl => ?_)
                refine lv_goto (tgt := 4) hx hb d_Search_spreadOverAllDoors_102 (by decide) ?_
                exact ih 1 (i + 1) ((g_Search_lowerCost ((g_Search_lowerCost z (f_Doors_firstRoomOf z i) (f_Doors_secondRoomOf z i) (f_Doors_costOf z i) a1).2) (f_Doors_secondRoomOf z i) (f_Doors_firstRoomOf z i) (f_Doors_costOf z i) a1).2) ls H locs ⟨Or.inr rfl, lp_inc hi.2 (by rw [← co_dn hz]; exact c_1) hI0.2.1.2 (by decide)⟩ (co_lower (co_lower hz _ _ _ _) _ _ _ _) (by rw [hq, if_neg c_1, if_neg c_2, if_pos c_3, if_pos c_4, if_neg c_5]) hP hS (lv_sub hl [0, 1, 7, 8] rfl)
  exact loop 81 0 0 x ls H locs ⟨Or.inl rfl, lp_0 (N := 80) hI.2.1 (by decide)⟩ (co_rf x) (rfl) hP hS (lv_sub hl [0, 1, 2, 3] rfl)
theorem co_Lsod {x : ST} (a1 : Int32) : ∀ (k : Nat) (ch i : Int32) (z : ST), co x z → co x (L_Search_spreadOverAllDoors a1 k ch i z).2 := by
  intro k
  induction k with
  | zero => intro ch i z hz; exact hz
  | succ k ih =>
    intro ch i z hz
    rw [L_Search_spreadOverAllDoors_s]
    repeat' split
    all_goals first | with_reducible exact hz | with_reducible exact ih _ _ _ hz | with_reducible exact ih _ _ _ (co_lower (co_lower hz _ _ _ _) _ _ _ _)
theorem co_sod {x z : ST} (hz : co x z) (a1 : Int32) : co x (g_Search_spreadOverAllDoors z a1).2 := co_Lsod a1 _ _ _ z hz
theorem lp_inc40 {i : Int32} {k : Nat} (hi : 0 ≤ i.toInt ∧ i.toInt ≤ 40 ∧ 40 - i.toInt < ((k + 1 : Nat) : Int)) (hc : ¬ 40 ≤ i) : 0 ≤ (i + 1).toInt ∧ (i + 1).toInt ≤ 40 ∧ 40 - (i + 1).toInt < (k : Int) := by
  rw [Int32.le_iff_toInt_le] at hc
  have h2 : (40 : Int32).toInt = 40 := rfl
  have h3 : (1 : Int32).toInt = 1 := rfl
  have e1 : (i + 1).toInt = i.toInt + 1 := by
    rw [Int32.toInt_add, h3]
    exact Int.bmod_eq_of_le (by omega) (by omega)
  omega
theorem ix_40 {i : Int32} {k : Nat} (hi : 0 ≤ i.toInt ∧ i.toInt ≤ 40 ∧ 40 - i.toInt < ((k + 1 : Nat) : Int)) (hc : ¬ 40 ≤ i) : vp_in i 40 := vp_in_iff.mpr (by
  rw [Int32.le_iff_toInt_le] at hc
  have h2 : (40 : Int32).toInt = 40 := rfl
  omega)
def L_Search_spread (a1 : Int32) : Nat → Int32 → Int32 → ST → Int32 × ST
  | 0, _, _, z => (0, z)
  | k + 1, ch, i, z => if ch = 0 then (0, z) else (if 40 ≤ i then (0, z) else L_Search_spread a1 k ((g_Search_spreadOverAllDoors z a1).1) (i + 1) ((g_Search_spreadOverAllDoors z a1).2))
theorem L_Search_spread_s (a1 : Int32) (k : Nat) (ch i : Int32) (z : ST) : L_Search_spread a1 (k + 1) ch i z = if ch = 0 then (0, z) else (if 40 ≤ i then (0, z) else L_Search_spread a1 k ((g_Search_spreadOverAllDoors z a1).1) (i + 1) ((g_Search_spreadOverAllDoors z a1).2)) := rfl
def g_Search_spread (x : ST) (a1 : Int32) : Int32 × ST := L_Search_spread a1 41 1 0 x
set_option maxHeartbeats 400000 in
set_option maxRecDepth 100000 in
theorem u_Search_spread (l : Launch) (dC : Nat → ClassId) (dI : Nat → Nat → Nat) (cI cZ : ClassId) (ad : Nat → Nat) (hj : aInj 29 ad) (x : ST) (hI : CIn x) (sz : Nat) (a1 : Int32) : MX l y_Search_spread (Cond.code y_Search_spread b_Search_spread 4 none :: BW) { frames := 4, cells := 0, slots := 0, locals := 96 } (PCZ sz (dC, dI) [(cI, .int), (cZ, .boolean)] (wC cI cZ ad x) [.ref (ad 4), .int a1]) (UQ none (WB (dC, dI) [(cI, .int), (cZ, .boolean)] (wC cI cZ ad (g_Search_spread x a1).2)) (aC 29 ad sz)) 0 0 (aC 29 ad sz) := by
  refine MX.ofW (cc := b_Search_spread) (maxL := 4) (ret := none) (by decide) rfl ?_
  intro p e s m args below meth c s₁ B hml hex hv
  obtain ⟨hsz, rfl, hP, hK, hN⟩ := hv
  subst hsz
  have hx := B.exec
  have hb := B.bytes
  have hr := B.returns
  have hts := atoms_spec (ws := Cond.code y_Search_spread b_Search_spread 4 none :: BW) B.pre
  have hbw : ∀ w ∈ BW, w.before ([.ref (ad 4), .int a1]).toArray s = true := fun w h => hts w (List.mem_cons_of_mem _ h)
  have hown : s.vm.findClass "PlanRows$Search" = some m.cls := findClass_of_methodNamed B.named
  have hlocks := B.notSynchronized
  have hDx : ∀ z, va_D (aC 29 ad s.heap.size) (wC cI cZ ad z) := fun z => w_D hj (wC_ad cI cZ ad z) _
  have hA : ∀ H : Heap, s.heap.size ≤ H.size → ∀ q, aC 29 ad H.size q → aC 29 ad s.heap.size q := fun H h => aC_le h
  generalize aC 29 ad s.heap.size = A at hDx hA ⊢
  have hD := hDx x
  have hS : va_S A s.heap s.heap [] := va_S.rf
  have hI0 := hI
  have hl := lv_entry ([.ref (ad 4), .int a1]) (n := 4) (Nat.le_of_ble_eq_true rfl)
  rw [lg_entry_eq]
  generalize (lg_sl ([.ref (ad 4), .int a1]) ++ List.replicate (4 - (lg_sl ([.ref (ad 4), .int a1])).length) Slot.unset).toArray = ls at hl ⊢
  obtain ⟨H, hH⟩ : ∃ H, H = s.heap := ⟨_, rfl⟩
  obtain ⟨locs, hlocs⟩ : ∃ locs : List Loc, locs = [] := ⟨_, rfl⟩
  have hP : va_P (dC, dI) clsA (wC cI cZ ad x) H := by rw [hH]; exact hP
  have hS : va_S A s.heap H locs := by rw [hH, hlocs]; exact hS
  rw [← hlocs]
  have hW0 : ∀ (R : Room) (Q : State → Prop) (g : JFrame), W p l e R s m ([.ref (ad 4), .int a1]).toArray below meth c H locs 0 0 Q g → W p l e R s m ([.ref (ad 4), .int a1]).toArray below meth c s.heap locs 0 0 Q g := fun R Q g h => by rw [← hH]; exact h
  refine hW0 _ _ _ ?_
  have hl : lv_has ls 4 [(0, .ref (ad 4)), (1, .int a1)] := hl
  refine lv_iconst (v := 1) hx hb d_Search_spread_0 (by decide) ?_
  refine lv_istore_n (lv' := [(2, .int 1), (0, .ref (ad 4)), (1, .int a1)]) hx hb d_Search_spread_1 rfl hl (by decide) rfl (fun ls hl => ?_)
  refine lv_iconst (v := 0) hx hb d_Search_spread_2 (by decide) ?_
  refine lv_istore_n (lv' := [(3, .int 0), (2, .int 1), (0, .ref (ad 4)), (1, .int a1)]) hx hb d_Search_spread_3 rfl hl (by decide) rfl (fun ls hl => ?_)
  have loop : ∀ (k : Nat) (ch i : Int32) (z : ST) (ls : Array Slot) (H : Heap) (locs : List Loc), 0 ≤ i.toInt ∧ i.toInt ≤ 40 ∧ 40 - i.toInt < ((k : Nat) : Int) → co x z → g_Search_spread x a1 = L_Search_spread a1 k ch i z → va_P (dC, dI) clsA (wC cI cZ ad z) H → va_S A s.heap H locs → lv_has ls 4 [(3, .int i), (2, .int ch), (0, .ref (ad 4)), (1, .int a1)] → W p l e { frames := 4, cells := 0, slots := 0, locals := 96 } s m ([.ref (ad 4), .int a1]).toArray below meth c H locs 0 0 (MQX below (UQ none (WB (dC, dI) [(cI, .int), (cZ, .boolean)] (wC cI cZ ad (g_Search_spread x a1).2)) A) ([.ref (ad 4), .int a1]).toArray s 0 0 A) (F0 m 4 ls []) := by
    intro k
    induction k with
    | zero =>
      intro ch i z ls H locs hi hz hq hP hS hl
      obtain ⟨h1, h2, h3⟩ := hi
      omega
    | succ k ih =>
      intro ch i z ls H locs hi hz hq hP hS hl
      have hq := hq.trans (L_Search_spread_s a1 k ch i z)
      have hI := (ci_co hz hI0)
      have hD := hDx z
      refine lv_iload_n hx hb d_Search_spread_4 rfl (lv_at hl 1 rfl) ?_
      refine lv_if_eq (tgt := 26) hx hb d_Search_spread_5 (by decide) (fun c_1 => ?_) (fun c_1 => ?_)
      · have hg : g_Search_spread x a1 = (0, z) := by rw [hq, if_pos c_1]
        exact W.toX (W.vret hx hb hr (fun t ht hW => ⟨rfl, ⟨by rw [ht, hg]; exact hP, va_K.moved hW.alike hK, hN.warm hW⟩, hS.F ht⟩) hS.2.2 d_Search_spread_26)
      · refine lv_iload_n hx hb d_Search_spread_8 rfl (lv_at hl 0 rfl) ?_
        refine lv_bipush (v := 40) hx hb d_Search_spread_9 (by decide) ?_
        refine lv_icmp_ge (tgt := 26) hx hb d_Search_spread_11 (by decide) (fun c_2 => ?_) (fun c_2 => ?_)
        · have hg : g_Search_spread x a1 = (0, z) := by rw [hq, if_neg c_1, if_pos c_2]
          exact W.toX (W.vret hx hb hr (fun t ht hW => ⟨rfl, ⟨by rw [ht, hg]; exact hP, va_K.moved hW.alike hK, hN.warm hW⟩, hS.F ht⟩) hS.2.2 d_Search_spread_26)
        · refine lv_aload_n hx hb d_Search_spread_14 rfl (lv_at hl 2 rfl) ?_
          refine lv_iload_n hx hb d_Search_spread_15 rfl (lv_at hl 3 rfl) ?_
          refine x_upd (x_runV (C := "PlanRows$Search") (b := (ad 4)) (As := [.int a1]) (rest := []) ⟨hx, hb, hml, hown, hts⟩ (u_Search_spreadOverAllDoors l dC dI cI cZ ad hj z hI H.size a1) (cw_Search_48 hts rfl rfl ⟨Nat.le_of_ble_eq_true rfl, Nat.le_of_ble_eq_true rfl⟩) ⟨PCZ.blind, va_recv hK hP (ci := 6) (q0 := 4) rfl rfl, PCZ.at hK hN hP⟩ rfl rfl hl.1 rfl (lv_room (Nat.le_of_ble_eq_true rfl)) d_Search_spread_16 ⟨Nat.zero_le _, Nat.zero_le _⟩) hS (fun q _ h => hA H hS.1 q h) (fun q h => hA H hS.1 q h) (fun t H1 locs ht hW hB hz1 hk1 hS => ?_)
          obtain ⟨hP, -, -⟩ := hB
          rw [ht] at hP
          generalize H1 = H at hP hS ⊢
          have hD : va_D A (wC cI cZ ad ((g_Search_spreadOverAllDoors z a1).2)) := hDx _
          have hI : CIn ((g_Search_spreadOverAllDoors z a1).2) := ci_co (co_sod hz _) hI0
          refine lv_istore_n (lv' := [(2, .int ((g_Search_spreadOverAllDoors z a1).1)), (3, .int i), (0, .ref (ad 4)), (1, .int a1)]) hx hb d_Search_spread_19 rfl hl (by decide) rfl (fun ls hl => ?_)
          refine lv_iinc (v := i + 1) (lv' := [(3, .int (i + 1)), (2, .int ((g_Search_spreadOverAllDoors z a1).1)), (0, .ref (ad 4)), (1, .int a1)]) hx hb d_Search_spread_20 hl (k := 1) rfl rfl (by decide) rfl (fun ls hl => ?_)
          refine lv_goto (tgt := 4) hx hb d_Search_spread_23 (by decide) ?_
          exact ih ((g_Search_spreadOverAllDoors z a1).1) (i + 1) ((g_Search_spreadOverAllDoors z a1).2) ls H locs (lp_inc40 hi c_2) (co_sod hz _) (by rw [hq, if_neg c_1, if_neg c_2]) hP hS (lv_sub hl [0, 1, 2, 3] rfl)
  exact loop 41 1 0 x ls H locs (by decide) (co_rf x) (rfl) hP hS (lv_sub hl [0, 1, 2, 3] rfl)
theorem co_Lspread {x : ST} (a1 : Int32) : ∀ (k : Nat) (ch i : Int32) (z : ST), co x z → co x (L_Search_spread a1 k ch i z).2 := by
  intro k
  induction k with
  | zero => intro ch i z hz; exact hz
  | succ k ih =>
    intro ch i z hz
    rw [L_Search_spread_s]
    repeat' split
    all_goals first | with_reducible exact hz | with_reducible exact ih _ _ _ (co_sod hz _)
theorem co_spread {x z : ST} (hz : co x z) (a1 : Int32) : co x (g_Search_spread z a1).2 := co_Lspread a1 _ _ _ z hz
theorem co_set {x z : ST} (hz : co x z) (f : Nat → Int32) : co x (s_co z f) := by
  obtain ⟨c, rfl⟩ := hz
  exact ⟨f, rfl⟩
def L_Arr_fill (a2 : Int32) : Nat → Int32 → ST → Int32 × ST
  | 0, _, z => (0, z)
  | k + 1, i, z => if 40 ≤ i then (0, z) else L_Arr_fill a2 k (i + 1) (s_co z (upd (q_co z) i.toNatClampNeg a2))
theorem L_Arr_fill_s (a2 : Int32) (k : Nat) (i : Int32) (z : ST) : L_Arr_fill a2 (k + 1) i z = if 40 ≤ i then (0, z) else L_Arr_fill a2 k (i + 1) (s_co z (upd (q_co z) i.toNatClampNeg a2)) := rfl
def g_Arr_fill (x : ST) (a2 : Int32) : Int32 × ST := L_Arr_fill a2 41 0 x
set_option maxHeartbeats 400000 in
set_option maxRecDepth 100000 in
theorem u_Arr_fill (l : Launch) (dC : Nat → ClassId) (dI : Nat → Nat → Nat) (cI cZ : ClassId) (ad : Nat → Nat) (hj : aInj 29 ad) (x : ST) (hI : CIn x) (sz : Nat) (a2 : Int32) : MX l y_Arr_fill (Cond.code y_Arr_fill b_Arr_fill 4 none :: BW) { frames := 0, cells := 0, slots := 0, locals := 0 } (PCZ sz (dC, dI) [(cI, .int), (cZ, .boolean)] (wC cI cZ ad x) [.ref (ad 17), .int a2]) (UQ none (WB (dC, dI) [(cI, .int), (cZ, .boolean)] (wC cI cZ ad (g_Arr_fill x a2).2)) (aC 29 ad sz)) 0 0 (aC 29 ad sz) := by
  refine MX.ofW (cc := b_Arr_fill) (maxL := 4) (ret := none) (by decide) rfl ?_
  intro p e s m args below meth c s₁ B hml hex hv
  obtain ⟨hsz, rfl, hP, hK, hN⟩ := hv
  subst hsz
  have hx := B.exec
  have hb := B.bytes
  have hr := B.returns
  have hts := atoms_spec (ws := Cond.code y_Arr_fill b_Arr_fill 4 none :: BW) B.pre
  have hbw : ∀ w ∈ BW, w.before ([.ref (ad 17), .int a2]).toArray s = true := fun w h => hts w (List.mem_cons_of_mem _ h)
  have hown : s.vm.findClass "java/util/Arrays" = some m.cls := findClass_of_methodNamed B.named
  have hlocks := B.notSynchronized
  have hDx : ∀ z, va_D (aC 29 ad s.heap.size) (wC cI cZ ad z) := fun z => w_D hj (wC_ad cI cZ ad z) _
  have hA : ∀ H : Heap, s.heap.size ≤ H.size → ∀ q, aC 29 ad H.size q → aC 29 ad s.heap.size q := fun H h => aC_le h
  generalize aC 29 ad s.heap.size = A at hDx hA ⊢
  have hD := hDx x
  have hS : va_S A s.heap s.heap [] := va_S.rf
  have hI0 := hI
  have hl := lv_entry ([.ref (ad 17), .int a2]) (n := 4) (Nat.le_of_ble_eq_true rfl)
  rw [lg_entry_eq]
  generalize (lg_sl ([.ref (ad 17), .int a2]) ++ List.replicate (4 - (lg_sl ([.ref (ad 17), .int a2])).length) Slot.unset).toArray = ls at hl ⊢
  obtain ⟨H, hH⟩ : ∃ H, H = s.heap := ⟨_, rfl⟩
  obtain ⟨locs, hlocs⟩ : ∃ locs : List Loc, locs = [] := ⟨_, rfl⟩
  have hP : va_P (dC, dI) clsA (wC cI cZ ad x) H := by rw [hH]; exact hP
  have hS : va_S A s.heap H locs := by rw [hH, hlocs]; exact hS
  rw [← hlocs]
  have hW0 : ∀ (R : Room) (Q : State → Prop) (g : JFrame), W p l e R s m ([.ref (ad 17), .int a2]).toArray below meth c H locs 0 0 Q g → W p l e R s m ([.ref (ad 17), .int a2]).toArray below meth c s.heap locs 0 0 Q g := fun R Q g h => by rw [← hH]; exact h
  refine hW0 _ _ _ ?_
  have hl : lv_has ls 4 [(0, .ref (ad 17)), (1, .int a2)] := hl
  refine lv_iconst (v := 0) hx hb d_Arr_fill_0 (by decide) ?_
  refine lv_istore_n (lv' := [(2, .int 0), (0, .ref (ad 17)), (1, .int a2)]) hx hb d_Arr_fill_1 rfl hl (by decide) rfl (fun ls hl => ?_)
  refine lv_aload_n hx hb d_Arr_fill_2 rfl (lv_at hl 1 rfl) ?_
  refine va_alen (v := 40) hx hb hK hP 17 0 rfl rfl (by rfl) d_Arr_fill_3 ?_
  refine lv_istore_n (lv' := [(3, .int 40), (2, .int 0), (0, .ref (ad 17)), (1, .int a2)]) hx hb d_Arr_fill_4 rfl hl (by decide) rfl (fun ls hl => ?_)
  have loop : ∀ (k : Nat) (i : Int32) (z : ST) (ls : Array Slot) (H : Heap) (locs : List Loc), 0 ≤ i.toInt ∧ i.toInt ≤ 40 ∧ 40 - i.toInt < ((k : Nat) : Int) → co x z → g_Arr_fill x a2 = L_Arr_fill a2 k i z → va_P (dC, dI) clsA (wC cI cZ ad z) H → va_S A s.heap H locs → lv_has ls 4 [(3, .int 40), (2, .int i), (0, .ref (ad 17)), (1, .int a2)] → W p l e { frames := 0, cells := 0, slots := 0, locals := 0 } s m ([.ref (ad 17), .int a2]).toArray below meth c H locs 0 0 (MQX below (UQ none (WB (dC, dI) [(cI, .int), (cZ, .boolean)] (wC cI cZ ad (g_Arr_fill x a2).2)) A) ([.ref (ad 17), .int a2]).toArray s 0 0 A) (F0 m 5 ls []) := by
    intro k
    induction k with
    | zero =>
      intro i z ls H locs hi hz hq hP hS hl
      obtain ⟨h1, h2, h3⟩ := hi
      omega
    | succ k ih =>
      intro i z ls H locs hi hz hq hP hS hl
      have hq := hq.trans (L_Arr_fill_s a2 k i z)
      have hI := (ci_co hz hI0)
      have hD := hDx z
      refine lv_iload_n hx hb d_Arr_fill_5 rfl (lv_at hl 1 rfl) ?_
      refine lv_iload_n hx hb d_Arr_fill_6 rfl (lv_at hl 0 rfl) ?_
      refine lv_icmp_ge (tgt := 20) hx hb d_Arr_fill_7 (by decide) (fun c_1 => ?_) (fun c_1 => ?_)
      · have hg : g_Arr_fill x a2 = (0, z) := by rw [hq, if_pos c_1]
        exact W.toX (W.vret hx hb hr (fun t ht hW => ⟨rfl, ⟨by rw [ht, hg]; exact hP, va_K.moved hW.alike hK, hN.warm hW⟩, hS.F ht⟩) hS.2.2 d_Arr_fill_20)
      · refine lv_aload_n hx hb d_Arr_fill_10 rfl (lv_at hl 2 rfl) ?_
        refine lv_iload_n hx hb d_Arr_fill_11 rfl (lv_at hl 1 rfl) ?_
        refine lv_iload_n hx hb d_Arr_fill_12 rfl (lv_at hl 3 rfl) ?_
        refine va_iast hx hb hK hP hD hS 17 0 rfl rfl (ix_40 hi c_1) d_Arr_fill_13 (fun H locs hP hD hS => ?_)
        rw [wC_s_co] at hP hD
        refine lv_iinc (v := i + 1) (lv' := [(2, .int (i + 1)), (3, .int 40), (0, .ref (ad 17)), (1, .int a2)]) hx hb d_Arr_fill_14 hl (k := 1) rfl rfl (by decide) rfl (fun ls hl => ?_)
        refine lv_goto (tgt := 5) hx hb d_Arr_fill_17 (by decide) ?_
        exact ih (i + 1) (s_co z (upd (q_co z) i.toNatClampNeg a2)) ls H locs (lp_inc40 hi c_1) (co_set hz _) (by rw [hq, if_neg c_1]) hP hS (lv_sub hl [1, 0, 2, 3] rfl)
  exact loop 41 0 x ls H locs (by decide) (co_rf x) (rfl) hP hS (lv_sub hl [0, 1, 2, 3] rfl)
theorem co_Lfill {x : ST} (a2 : Int32) : ∀ (k : Nat) (i : Int32) (z : ST), co x z → co x (L_Arr_fill a2 k i z).2 := by
  intro k
  induction k with
  | zero => intro i z hz; exact hz
  | succ k ih =>
    intro i z hz
    rw [L_Arr_fill_s]
    repeat' split
    all_goals first | with_reducible exact hz | with_reducible exact ih _ _ (co_set hz _)
theorem co_fill {x z : ST} (hz : co x z) (a2 : Int32) : co x (g_Arr_fill z a2).2 := co_Lfill a2 _ _ z hz
def g_Search_spreadFromRoom (x : ST) (a1 a2 : Int32) : Int32 × ST := if (f_Rooms_has ((g_Arr_fill x 1000000000).2) a1) = 0 then (0, (g_Search_spread ((g_Arr_fill x 1000000000).2) a2).2) else (0, (g_Search_spread (s_co ((g_Arr_fill x 1000000000).2) (upd (q_co ((g_Arr_fill x 1000000000).2)) a1.toNatClampNeg 0)) a2).2)
set_option maxHeartbeats 400000 in
set_option maxRecDepth 100000 in
theorem u_Search_spreadFromRoom (l : Launch) (dC : Nat → ClassId) (dI : Nat → Nat → Nat) (cI cZ : ClassId) (ad : Nat → Nat) (hj : aInj 29 ad) (x : ST) (hI : CIn x) (sz : Nat) (a1 a2 : Int32) : MX l y_Search_spreadFromRoom (Cond.code y_Search_spreadFromRoom b_Search_spreadFromRoom 3 none :: BW) { frames := 5, cells := 0, slots := 0, locals := 119 } (PCZ sz (dC, dI) [(cI, .int), (cZ, .boolean)] (wC cI cZ ad x) [.ref (ad 4), .int a1, .int a2]) (UQ none (WB (dC, dI) [(cI, .int), (cZ, .boolean)] (wC cI cZ ad (g_Search_spreadFromRoom x a1 a2).2)) (aC 29 ad sz)) 0 0 (aC 29 ad sz) := by
  refine MX.ofW (cc := b_Search_spreadFromRoom) (maxL := 3) (ret := none) (by decide) rfl ?_
  intro p e s m args below meth c s₁ B hml hex hv
  obtain ⟨hsz, rfl, hP, hK, hN⟩ := hv
  subst hsz
  have hx := B.exec
  have hb := B.bytes
  have hr := B.returns
  have hts := atoms_spec (ws := Cond.code y_Search_spreadFromRoom b_Search_spreadFromRoom 3 none :: BW) B.pre
  have hbw : ∀ w ∈ BW, w.before ([.ref (ad 4), .int a1, .int a2]).toArray s = true := fun w h => hts w (List.mem_cons_of_mem _ h)
  have hown : s.vm.findClass "PlanRows$Search" = some m.cls := findClass_of_methodNamed B.named
  have hlocks := B.notSynchronized
  have hDx : ∀ z, va_D (aC 29 ad s.heap.size) (wC cI cZ ad z) := fun z => w_D hj (wC_ad cI cZ ad z) _
  have hA : ∀ H : Heap, s.heap.size ≤ H.size → ∀ q, aC 29 ad H.size q → aC 29 ad s.heap.size q := fun H h => aC_le h
  generalize aC 29 ad s.heap.size = A at hDx hA ⊢
  have hD := hDx x
  have hS : va_S A s.heap s.heap [] := va_S.rf
  have hI0 := hI
  have hl := lv_entry ([.ref (ad 4), .int a1, .int a2]) (n := 3) (Nat.le_of_ble_eq_true rfl)
  rw [lg_entry_eq]
  generalize (lg_sl ([.ref (ad 4), .int a1, .int a2]) ++ List.replicate (3 - (lg_sl ([.ref (ad 4), .int a1, .int a2])).length) Slot.unset).toArray = ls at hl ⊢
  obtain ⟨H, hH⟩ : ∃ H, H = s.heap := ⟨_, rfl⟩
  obtain ⟨locs, hlocs⟩ : ∃ locs : List Loc, locs = [] := ⟨_, rfl⟩
  have hP : va_P (dC, dI) clsA (wC cI cZ ad x) H := by rw [hH]; exact hP
  have hS : va_S A s.heap H locs := by rw [hH, hlocs]; exact hS
  rw [← hlocs]
  have hW0 : ∀ (R : Room) (Q : State → Prop) (g : JFrame), W p l e R s m ([.ref (ad 4), .int a1, .int a2]).toArray below meth c H locs 0 0 Q g → W p l e R s m ([.ref (ad 4), .int a1, .int a2]).toArray below meth c s.heap locs 0 0 Q g := fun R Q g h => by rw [← hH]; exact h
  refine hW0 _ _ _ ?_
  have hl : lv_has ls 3 [(0, .ref (ad 4)), (1, .int a1), (2, .int a2)] := hl
  refine lv_aload_n hx hb d_Search_spreadFromRoom_0 rfl (lv_at hl 0 rfl) ?_
  refine va_get (D := (dC, dI)) (ci := 6) (v := .ref (ad 17)) (C := R_Search) (T := F_Search) (N := 4) hx hb hbw in_Search hown hK hP 4 rfl rfl 3 (by decide) (hbw _ w_98) (fun _ h9 => h9) rfl d_Search_spreadFromRoom_1 ?_
  refine lv_ldc (v := 1000000000) hx hb hown (hbw _ w_436) d_Search_spreadFromRoom_4 ?_
  refine x_upd (x_runS (As := [.ref (ad 17), .int 1000000000]) (rest := []) ⟨hx, hb, hml, hown, hts⟩ (u_Arr_fill l dC dI cI cZ ad hj x hI H.size 1000000000) (cw_Search_28 hts rfl rfl ⟨Nat.le_of_ble_eq_true rfl, Nat.le_of_ble_eq_true rfl⟩) ⟨PCZ.blind, PCZ.at hK hN hP⟩ rfl rfl hl.1 rfl (lv_room (Nat.le_of_ble_eq_true rfl)) d_Search_spreadFromRoom_6 ⟨Nat.zero_le _, Nat.zero_le _⟩) hS (fun q _ h => hA H hS.1 q h) (fun q h => hA H hS.1 q h) (fun t H1 locs ht hW hB hz1 hk1 hS => ?_)
  obtain ⟨hP, -, -⟩ := hB
  rw [ht] at hP
  generalize H1 = H at hP hS ⊢
  have hD : va_D A (wC cI cZ ad ((g_Arr_fill x 1000000000).2)) := hDx _
  have hI : CIn ((g_Arr_fill x 1000000000).2) := ci_co (co_fill (co_rf x) _) hI0
  refine lv_aload_n hx hb d_Search_spreadFromRoom_9 rfl (lv_at hl 0 rfl) ?_
  refine va_get (D := (dC, dI)) (ci := 6) (v := .ref (ad 1)) (C := R_Search) (T := F_Search) (N := 4) hx hb hbw in_Search hown hK hP 4 rfl rfl 0 (by decide) (hbw _ w_95) (fun _ h9 => h9) rfl d_Search_spreadFromRoom_10 ?_
  refine lv_iload_n hx hb d_Search_spreadFromRoom_13 rfl (lv_at hl 1 rfl) ?_
  refine xv (As := [.int a1]) (rest := []) (C := "PlanRows$Rooms") ⟨hx, hb, hml, hown, hts⟩ (c_Rooms_has l dC dI cI cZ ad ((g_Arr_fill x 1000000000).2) hI a1) (cw_Search_34 hts rfl rfl ⟨Nat.le_of_ble_eq_true rfl, Nat.le_of_ble_eq_true rfl⟩) hK hN hP 1 rfl rfl rfl rfl hl.1 rfl (Nat.le_of_ble_eq_true rfl) d_Search_spreadFromRoom_14 ⟨Nat.zero_le _, Nat.zero_le _⟩ ?_
  refine lv_if_eq (tgt := 27) hx hb d_Search_spreadFromRoom_17 (by decide) (fun c_1 => ?_) (fun c_1 => ?_)
  · refine lv_aload_n hx hb d_Search_spreadFromRoom_27 rfl (lv_at hl 0 rfl) ?_
    refine lv_iload_n hx hb d_Search_spreadFromRoom_28 rfl (lv_at hl 2 rfl) ?_
    refine x_upd (x_runV (C := "PlanRows$Search") (b := (ad 4)) (As := [.int a2]) (rest := []) ⟨hx, hb, hml, hown, hts⟩ (u_Search_spread l dC dI cI cZ ad hj ((g_Arr_fill x 1000000000).2) hI H.size a2) (cw_Search_40 hts rfl rfl ⟨Nat.le_of_ble_eq_true rfl, Nat.le_of_ble_eq_true rfl⟩) ⟨PCZ.blind, va_recv hK hP (ci := 6) (q0 := 4) rfl rfl, PCZ.at hK hN hP⟩ rfl rfl hl.1 rfl (lv_room (Nat.le_of_ble_eq_true rfl)) d_Search_spreadFromRoom_29 ⟨Nat.zero_le _, Nat.zero_le _⟩) hS (fun q _ h => hA H hS.1 q h) (fun q h => hA H hS.1 q h) (fun t H1 locs ht hW hB hz1 hk1 hS => ?_)
    obtain ⟨hP, -, -⟩ := hB
    rw [ht] at hP
    generalize H1 = H at hP hS ⊢
    have hD : va_D A (wC cI cZ ad ((g_Search_spread ((g_Arr_fill x 1000000000).2) a2).2)) := hDx _
    have hI : CIn ((g_Search_spread ((g_Arr_fill x 1000000000).2) a2).2) := ci_co (co_spread (co_fill (co_rf x) _) _) hI0
    have hg : g_Search_spreadFromRoom x a1 a2 = (0, (g_Search_spread ((g_Arr_fill x 1000000000).2) a2).2) := by unfold g_Search_spreadFromRoom; rw [if_pos c_1]
    exact W.toX (W.vret hx hb hr (fun t ht hW => ⟨rfl, ⟨by rw [ht, hg]; exact hP, va_K.moved hW.alike hK, hN.warm hW⟩, hS.F ht⟩) hS.2.2 d_Search_spreadFromRoom_32)
  · refine lv_aload_n hx hb d_Search_spreadFromRoom_20 rfl (lv_at hl 0 rfl) ?_
    refine va_get (D := (dC, dI)) (ci := 6) (v := .ref (ad 17)) (C := R_Search) (T := F_Search) (N := 4) hx hb hbw in_Search hown hK hP 4 rfl rfl 3 (by decide) (hbw _ w_98) (fun _ h9 => h9) rfl d_Search_spreadFromRoom_21 ?_
    refine lv_iload_n hx hb d_Search_spreadFromRoom_24 rfl (lv_at hl 1 rfl) ?_
    refine lv_iconst (v := 0) hx hb d_Search_spreadFromRoom_25 (by decide) ?_
    refine va_iast hx hb hK hP hD hS 17 0 rfl rfl (ix_rooms (ci_co (co_fill (co_rf x) _) hI0) c_1) d_Search_spreadFromRoom_26 (fun H locs hP hD hS => ?_)
    rw [wC_s_co] at hP hD
    have hI : CIn (s_co ((g_Arr_fill x 1000000000).2) (upd (q_co ((g_Arr_fill x 1000000000).2)) a1.toNatClampNeg 0)) := ci_co (co_set (co_fill (co_rf x) _) _) hI0
    refine lv_aload_n hx hb d_Search_spreadFromRoom_27 rfl (lv_at hl 0 rfl) ?_
    refine lv_iload_n hx hb d_Search_spreadFromRoom_28 rfl (lv_at hl 2 rfl) ?_
    refine x_upd (x_runV (C := "PlanRows$Search") (b := (ad 4)) (As := [.int a2]) (rest := []) ⟨hx, hb, hml, hown, hts⟩ (u_Search_spread l dC dI cI cZ ad hj (s_co ((g_Arr_fill x 1000000000).2) (upd (q_co ((g_Arr_fill x 1000000000).2)) a1.toNatClampNeg 0)) hI H.size a2) (cw_Search_40 hts rfl rfl ⟨Nat.le_of_ble_eq_true rfl, Nat.le_of_ble_eq_true rfl⟩) ⟨PCZ.blind, va_recv hK hP (ci := 6) (q0 := 4) rfl rfl, PCZ.at hK hN hP⟩ rfl rfl hl.1 rfl (lv_room (Nat.le_of_ble_eq_true rfl)) d_Search_spreadFromRoom_29 ⟨Nat.zero_le _, Nat.zero_le _⟩) hS (fun q _ h => hA H hS.1 q h) (fun q h => hA H hS.1 q h) (fun t H1 locs ht hW hB hz1 hk1 hS => ?_)
    obtain ⟨hP, -, -⟩ := hB
    rw [ht] at hP
    generalize H1 = H at hP hS ⊢
    have hD : va_D A (wC cI cZ ad ((g_Search_spread (s_co ((g_Arr_fill x 1000000000).2) (upd (q_co ((g_Arr_fill x 1000000000).2)) a1.toNatClampNeg 0)) a2).2)) := hDx _
    have hI : CIn ((g_Search_spread (s_co ((g_Arr_fill x 1000000000).2) (upd (q_co ((g_Arr_fill x 1000000000).2)) a1.toNatClampNeg 0)) a2).2) := ci_co (co_spread (co_set (co_fill (co_rf x) _) _) _) hI0
    have hg : g_Search_spreadFromRoom x a1 a2 = (0, (g_Search_spread (s_co ((g_Arr_fill x 1000000000).2) (upd (q_co ((g_Arr_fill x 1000000000).2)) a1.toNatClampNeg 0)) a2).2) := by unfold g_Search_spreadFromRoom; rw [if_neg c_1]
    exact W.toX (W.vret hx hb hr (fun t ht hW => ⟨rfl, ⟨by rw [ht, hg]; exact hP, va_K.moved hW.alike hK, hN.warm hW⟩, hS.F ht⟩) hS.2.2 d_Search_spreadFromRoom_32)
def L_Search_spreadFromKind (a1 : Int32) : Nat → Int32 → ST → Int32 × ST
  | 0, _, z => (0, z)
  | k + 1, i, z => if 40 ≤ i then (0, (g_Search_spread z 0).2) else (if (f_Rooms_isOfKind z i a1) = 0 then L_Search_spreadFromKind a1 k (i + 1) (s_co z (upd (q_co z) i.toNatClampNeg 1000000000)) else L_Search_spreadFromKind a1 k (i + 1) (s_co z (upd (q_co z) i.toNatClampNeg 0)))
theorem L_Search_spreadFromKind_s (a1 : Int32) (k : Nat) (i : Int32) (z : ST) : L_Search_spreadFromKind a1 (k + 1) i z = if 40 ≤ i then (0, (g_Search_spread z 0).2) else (if (f_Rooms_isOfKind z i a1) = 0 then L_Search_spreadFromKind a1 k (i + 1) (s_co z (upd (q_co z) i.toNatClampNeg 1000000000)) else L_Search_spreadFromKind a1 k (i + 1) (s_co z (upd (q_co z) i.toNatClampNeg 0))) := rfl
def g_Search_spreadFromKind (x : ST) (a1 : Int32) : Int32 × ST := L_Search_spreadFromKind a1 41 0 x
set_option maxHeartbeats 400000 in
set_option maxRecDepth 100000 in
theorem u_Search_spreadFromKind (l : Launch) (dC : Nat → ClassId) (dI : Nat → Nat → Nat) (cI cZ : ClassId) (ad : Nat → Nat) (hj : aInj 29 ad) (x : ST) (hI : CIn x) (sz : Nat) (a1 : Int32) : MX l y_Search_spreadFromKind (Cond.code y_Search_spreadFromKind b_Search_spreadFromKind 3 none :: BW) { frames := 5, cells := 0, slots := 0, locals := 119 } (PCZ sz (dC, dI) [(cI, .int), (cZ, .boolean)] (wC cI cZ ad x) [.ref (ad 4), .int a1]) (UQ none (WB (dC, dI) [(cI, .int), (cZ, .boolean)] (wC cI cZ ad (g_Search_spreadFromKind x a1).2)) (aC 29 ad sz)) 0 0 (aC 29 ad sz) := by
  refine MX.ofW (cc := b_Search_spreadFromKind) (maxL := 3) (ret := none) (by decide) rfl ?_
  intro p e s m args below meth c s₁ B hml hex hv
  obtain ⟨hsz, rfl, hP, hK, hN⟩ := hv
  subst hsz
  have hx := B.exec
  have hb := B.bytes
  have hr := B.returns
  have hts := atoms_spec (ws := Cond.code y_Search_spreadFromKind b_Search_spreadFromKind 3 none :: BW) B.pre
  have hbw : ∀ w ∈ BW, w.before ([.ref (ad 4), .int a1]).toArray s = true := fun w h => hts w (List.mem_cons_of_mem _ h)
  have hown : s.vm.findClass "PlanRows$Search" = some m.cls := findClass_of_methodNamed B.named
  have hlocks := B.notSynchronized
  have hDx : ∀ z, va_D (aC 29 ad s.heap.size) (wC cI cZ ad z) := fun z => w_D hj (wC_ad cI cZ ad z) _
  have hA : ∀ H : Heap, s.heap.size ≤ H.size → ∀ q, aC 29 ad H.size q → aC 29 ad s.heap.size q := fun H h => aC_le h
  generalize aC 29 ad s.heap.size = A at hDx hA ⊢
  have hD := hDx x
  have hS : va_S A s.heap s.heap [] := va_S.rf
  have hI0 := hI
  have hl := lv_entry ([.ref (ad 4), .int a1]) (n := 3) (Nat.le_of_ble_eq_true rfl)
  rw [lg_entry_eq]
  generalize (lg_sl ([.ref (ad 4), .int a1]) ++ List.replicate (3 - (lg_sl ([.ref (ad 4), .int a1])).length) Slot.unset).toArray = ls at hl ⊢
  obtain ⟨H, hH⟩ : ∃ H, H = s.heap := ⟨_, rfl⟩
  obtain ⟨locs, hlocs⟩ : ∃ locs : List Loc, locs = [] := ⟨_, rfl⟩
  have hP : va_P (dC, dI) clsA (wC cI cZ ad x) H := by rw [hH]; exact hP
  have hS : va_S A s.heap H locs := by rw [hH, hlocs]; exact hS
  rw [← hlocs]
  have hW0 : ∀ (R : Room) (Q : State → Prop) (g : JFrame), W p l e R s m ([.ref (ad 4), .int a1]).toArray below meth c H locs 0 0 Q g → W p l e R s m ([.ref (ad 4), .int a1]).toArray below meth c s.heap locs 0 0 Q g := fun R Q g h => by rw [← hH]; exact h
  refine hW0 _ _ _ ?_
  have hl : lv_has ls 3 [(0, .ref (ad 4)), (1, .int a1)] := hl
  refine lv_iconst (v := 0) hx hb d_Search_spreadFromKind_0 (by decide) ?_
  refine lv_istore_n (lv' := [(2, .int 0), (0, .ref (ad 4)), (1, .int a1)]) hx hb d_Search_spreadFromKind_1 rfl hl (by decide) rfl (fun ls hl => ?_)
  have loop : ∀ (k : Nat) (i : Int32) (z : ST) (ls : Array Slot) (H : Heap) (locs : List Loc), 0 ≤ i.toInt ∧ i.toInt ≤ 40 ∧ 40 - i.toInt < ((k : Nat) : Int) → co x z → g_Search_spreadFromKind x a1 = L_Search_spreadFromKind a1 k i z → va_P (dC, dI) clsA (wC cI cZ ad z) H → va_S A s.heap H locs → lv_has ls 3 [(2, .int i), (0, .ref (ad 4)), (1, .int a1)] → W p l e { frames := 5, cells := 0, slots := 0, locals := 119 } s m ([.ref (ad 4), .int a1]).toArray below meth c H locs 0 0 (MQX below (UQ none (WB (dC, dI) [(cI, .int), (cZ, .boolean)] (wC cI cZ ad (g_Search_spreadFromKind x a1).2)) A) ([.ref (ad 4), .int a1]).toArray s 0 0 A) (F0 m 2 ls []) := by
    intro k
    induction k with
    | zero =>
      intro i z ls H locs hi hz hq hP hS hl
      obtain ⟨h1, h2, h3⟩ := hi
      omega
    | succ k ih =>
      intro i z ls H locs hi hz hq hP hS hl
      have hq := hq.trans (L_Search_spreadFromKind_s a1 k i z)
      have hI := (ci_co hz hI0)
      have hD := hDx z
      refine lv_iload_n hx hb d_Search_spreadFromKind_2 rfl (lv_at hl 0 rfl) ?_
      refine lv_bipush (v := 40) hx hb d_Search_spreadFromKind_3 (by decide) ?_
      refine lv_icmp_ge (tgt := 38) hx hb d_Search_spreadFromKind_5 (by decide) (fun c_1 => ?_) (fun c_1 => ?_)
      · refine lv_aload_n hx hb d_Search_spreadFromKind_38 rfl (lv_at hl 1 rfl) ?_
        refine lv_iconst (v := 0) hx hb d_Search_spreadFromKind_39 (by decide) ?_
        refine x_upd (x_runV (C := "PlanRows$Search") (b := (ad 4)) (As := [.int 0]) (rest := []) ⟨hx, hb, hml, hown, hts⟩ (u_Search_spread l dC dI cI cZ ad hj z hI H.size 0) (cw_Search_40 hts rfl rfl ⟨Nat.le_of_ble_eq_true rfl, Nat.le_of_ble_eq_true rfl⟩) ⟨PCZ.blind, va_recv hK hP (ci := 6) (q0 := 4) rfl rfl, PCZ.at hK hN hP⟩ rfl rfl hl.1 rfl (lv_room (Nat.le_of_ble_eq_true rfl)) d_Search_spreadFromKind_40 ⟨Nat.zero_le _, Nat.zero_le _⟩) hS (fun q _ h => hA H hS.1 q h) (fun q h => hA H hS.1 q h) (fun t H1 locs ht hW hB hz1 hk1 hS => ?_)
        obtain ⟨hP, -, -⟩ := hB
        rw [ht] at hP
        generalize H1 = H at hP hS ⊢
        have hD : va_D A (wC cI cZ ad ((g_Search_spread z 0).2)) := hDx _
        have hI : CIn ((g_Search_spread z 0).2) := ci_co (co_spread hz _) hI0
        have hg : g_Search_spreadFromKind x a1 = (0, (g_Search_spread z 0).2) := by rw [hq, if_pos c_1]
        exact W.toX (W.vret hx hb hr (fun t ht hW => ⟨rfl, ⟨by rw [ht, hg]; exact hP, va_K.moved hW.alike hK, hN.warm hW⟩, hS.F ht⟩) hS.2.2 d_Search_spreadFromKind_43)
      · refine lv_aload_n hx hb d_Search_spreadFromKind_8 rfl (lv_at hl 1 rfl) ?_
        refine va_get (D := (dC, dI)) (ci := 6) (v := .ref (ad 17)) (C := R_Search) (T := F_Search) (N := 4) hx hb hbw in_Search hown hK hP 4 rfl rfl 3 (by decide) (hbw _ w_98) (fun _ h9 => h9) rfl d_Search_spreadFromKind_9 ?_
        refine lv_iload_n hx hb d_Search_spreadFromKind_12 rfl (lv_at hl 0 rfl) ?_
        refine lv_aload_n hx hb d_Search_spreadFromKind_13 rfl (lv_at hl 1 rfl) ?_
        refine va_get (D := (dC, dI)) (ci := 6) (v := .ref (ad 1)) (C := R_Search) (T := F_Search) (N := 4) hx hb hbw in_Search hown hK hP 4 rfl rfl 0 (by decide) (hbw _ w_95) (fun _ h9 => h9) rfl d_Search_spreadFromKind_14 ?_
        refine lv_iload_n hx hb d_Search_spreadFromKind_17 rfl (lv_at hl 0 rfl) ?_
        refine lv_iload_n hx hb d_Search_spreadFromKind_18 rfl (lv_at hl 2 rfl) ?_
        refine xv (As := [.int i, .int a1]) (rest := [.int i, .ref (ad 17)]) (C := "PlanRows$Rooms") ⟨hx, hb, hml, hown, hts⟩ (c_Rooms_isOfKind l dC dI cI cZ ad z hI i a1) (cw_Search_44 hts rfl rfl ⟨Nat.le_of_ble_eq_true rfl, Nat.le_of_ble_eq_true rfl⟩) hK hN hP 1 rfl rfl rfl rfl hl.1 rfl (Nat.le_of_ble_eq_true rfl) d_Search_spreadFromKind_19 ⟨Nat.zero_le _, Nat.zero_le _⟩ ?_
        refine lv_if_eq (tgt := 29) hx hb d_Search_spreadFromKind_22 (by decide) (fun c_2 => ?_) (fun c_2 => ?_)
        · refine lv_ldc (v := 1000000000) hx hb hown (hbw _ w_436) d_Search_spreadFromKind_29 ?_
          refine va_iast hx hb hK hP hD hS 17 0 rfl rfl (ix_40 hi c_1) d_Search_spreadFromKind_31 (fun H locs hP hD hS => ?_)
          rw [wC_s_co] at hP hD
          have hI : CIn (s_co z (upd (q_co z) i.toNatClampNeg 1000000000)) := ci_co (co_set hz _) hI0
          refine lv_iinc (v := i + 1) (lv' := [(2, .int (i + 1)), (0, .ref (ad 4)), (1, .int a1)]) hx hb d_Search_spreadFromKind_32 hl (k := 0) rfl rfl (by decide) rfl (fun ls hl => ?_)
          refine lv_goto (tgt := 2) hx hb d_Search_spreadFromKind_35 (by decide) ?_
          exact ih (i + 1) (s_co z (upd (q_co z) i.toNatClampNeg 1000000000)) ls H locs (lp_inc40 hi c_1) (co_set hz _) (by rw [hq, if_neg c_1, if_pos c_2]) hP hS (lv_sub hl [0, 1, 2] rfl)
        · refine lv_iconst (v := 0) hx hb d_Search_spreadFromKind_25 (by decide) ?_
          refine lv_goto (tgt := 31) hx hb d_Search_spreadFromKind_26 (by decide) ?_
          refine va_iast hx hb hK hP hD hS 17 0 rfl rfl (ix_40 hi c_1) d_Search_spreadFromKind_31 (fun H locs hP hD hS => ?_)
          rw [wC_s_co] at hP hD
          have hI : CIn (s_co z (upd (q_co z) i.toNatClampNeg 0)) := ci_co (co_set hz _) hI0
          refine lv_iinc (v := i + 1) (lv' := [(2, .int (i + 1)), (0, .ref (ad 4)), (1, .int a1)]) hx hb d_Search_spreadFromKind_32 hl (k := 0) rfl rfl (by decide) rfl (fun ls hl => ?_)
          refine lv_goto (tgt := 2) hx hb d_Search_spreadFromKind_35 (by decide) ?_
          exact ih (i + 1) (s_co z (upd (q_co z) i.toNatClampNeg 0)) ls H locs (lp_inc40 hi c_1) (co_set hz _) (by rw [hq, if_neg c_1, if_neg c_2]) hP hS (lv_sub hl [0, 1, 2] rfl)
  exact loop 41 0 x ls H locs (by decide) (co_rf x) (rfl) hP hS (lv_sub hl [0, 1, 2] rfl)
