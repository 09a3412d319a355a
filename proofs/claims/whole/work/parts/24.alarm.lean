def g_Mod_alarm (x : RT) (a1 a2 : Int32) : Int32 × RT := if ((g_Mod_throwing x (if (f_Mod_isDetector a1 a2) = 0 then 1 else 0 : Int32) 0 0 0).1) = 0 then (if 0 ≤ (f_Mod_detectorOf ((g_Mod_throwing x (if (f_Mod_isDetector a1 a2) = 0 then 1 else 0 : Int32) 0 0 0).2) a1 a2) then ((q_m_watched ((g_Mod_throwing x (if (f_Mod_isDetector a1 a2) = 0 then 1 else 0 : Int32) 0 0 0).2)) (f_Mod_detectorOf ((g_Mod_throwing x (if (f_Mod_isDetector a1 a2) = 0 then 1 else 0 : Int32) 0 0 0).2) a1 a2).toNatClampNeg, ((g_Mod_throwing x (if (f_Mod_isDetector a1 a2) = 0 then 1 else 0 : Int32) 0 0 0).2)) else ((-1) - a1, ((g_Mod_throwing x (if (f_Mod_isDetector a1 a2) = 0 then 1 else 0 : Int32) 0 0 0).2))) else (0, ((g_Mod_throwing x (if (f_Mod_isDetector a1 a2) = 0 then 1 else 0 : Int32) 0 0 0).2))
set_option maxHeartbeats 4000000 in
set_option maxRecDepth 100000 in
theorem u_Mod_alarm (l : Launch) (dC : Nat → ClassId) (dI : Nat → Nat → Nat) (cI cZ : ClassId) (ad : Nat → Nat) (hj : aInj 21 ad) (x : RT) (hI : RIn x) (sz : Nat) (a1 a2 : Int32) : MX l y_Mod_alarm (Cond.code y_Mod_alarm b_Mod_alarm 4 (some .int) :: BW) { frames := 2, cells := 0, slots := 0, locals := 43 } (PCZ sz (dC, dI) [(cI, .int), (cZ, .boolean)] (wR cI cZ ad x) [.ref (ad 0), .int a1, .int a2]) (UQ (some (.int (g_Mod_alarm x a1 a2).1)) (WB (dC, dI) [(cI, .int), (cZ, .boolean)] (wR cI cZ ad (g_Mod_alarm x a1 a2).2)) (aC 21 ad sz)) 0 0 (aC 21 ad sz) := by
  refine MX.ofW (cc := b_Mod_alarm) (maxL := 4) (ret := (some .int)) (by decide) rfl ?_
  intro p e s m args below meth c s₁ B hml hex hv
  obtain ⟨hsz, rfl, hP, hK, hN⟩ := hv
  subst hsz
  have hx := B.exec
  have hb := B.bytes
  have hr := B.returns
  have hts := atoms_spec (ws := Cond.code y_Mod_alarm b_Mod_alarm 4 (some .int) :: BW) B.pre
  have hbw : ∀ w ∈ BW, w.before ([.ref (ad 0), .int a1, .int a2]).toArray s = true := fun w h => hts w (List.mem_cons_of_mem _ h)
  have hown : s.vm.findClass "PlanRowsModel" = some m.cls := findClass_of_methodNamed B.named
  have hlocks := B.notSynchronized
  have hDx : ∀ z, va_D (aC 21 ad s.heap.size) (wR cI cZ ad z) := fun z => w_D hj (wR_ad cI cZ ad z) _
  have hA : ∀ H : Heap, s.heap.size ≤ H.size → ∀ q, aC 21 ad H.size q → aC 21 ad s.heap.size q := fun H h => aC_le h
  generalize aC 21 ad s.heap.size = A at hDx hA ⊢
  have hD := hDx x
  have hS : va_S A s.heap s.heap [] := va_S.rf
  have hI0 := hI
  have hl := lv_entry ([.ref (ad 0), .int a1, .int a2]) (n := 4) (Nat.le_of_ble_eq_true rfl)
  rw [lg_entry_eq]
  generalize (lg_sl ([.ref (ad 0), .int a1, .int a2]) ++ List.replicate (4 - (lg_sl ([.ref (ad 0), .int a1, .int a2])).length) Slot.unset).toArray = ls at hl ⊢
  obtain ⟨H, hH⟩ : ∃ H, H = s.heap := ⟨_, rfl⟩
  obtain ⟨locs, hlocs⟩ : ∃ locs : List Loc, locs = [] := ⟨_, rfl⟩
  have hP : va_P (dC, dI) clsA (wR cI cZ ad x) H := by rw [hH]; exact hP
  have hS : va_S A s.heap H locs := by rw [hH, hlocs]; exact hS
  rw [← hlocs]
  have hW0 : ∀ (R : Room) (Q : State → Prop) (g : JFrame), W p l e R s m ([.ref (ad 0), .int a1, .int a2]).toArray below meth c H locs 0 0 Q g → W p l e R s m ([.ref (ad 0), .int a1, .int a2]).toArray below meth c s.heap locs 0 0 Q g := fun R Q g h => by rw [← hH]; exact h
  refine hW0 _ _ _ ?_
  have hl : lv_has ls 4 [(0, .ref (ad 0)), (1, .int a1), (2, .int a2)] := hl
  refine lv_aload_n hx hb d_Mod_alarm_0 rfl (lv_at hl 0 rfl) ?_
  refine lv_iload_n hx hb d_Mod_alarm_1 rfl (lv_at hl 1 rfl) ?_
  refine lv_iload_n hx hb d_Mod_alarm_2 rfl (lv_at hl 2 rfl) ?_
  refine xs (As := [.int a1, .int a2]) (rest := [.ref (ad 0)]) ⟨hx, hb, hml, hown, hts⟩ (c_Mod_isDetector l dC dI _ _ a1 a2) (cw_Mod_126 hts rfl rfl ⟨Nat.le_of_ble_eq_true rfl, Nat.le_of_ble_eq_true rfl⟩) hK hN hP rfl hl.1 rfl (Nat.le_of_ble_eq_true rfl) d_Mod_alarm_3 ⟨Nat.zero_le _, Nat.zero_le _⟩ ?_
  have jn_1 : W p l e { frames := 2, cells := 0, slots := 0, locals := 43 } s m ([.ref (ad 0), .int a1, .int a2]).toArray below meth c H locs 0 0 (MQX below (UQ (some (.int (g_Mod_alarm x a1 a2).1)) (WB (dC, dI) [(cI, .int), (cZ, .boolean)] (wR cI cZ ad (g_Mod_alarm x a1 a2).2)) A) ([.ref (ad 0), .int a1, .int a2]).toArray s 0 0 A) (F0 m 14 ls [.int (if (f_Mod_isDetector a1 a2) = 0 then 1 else 0 : Int32), .ref (ad 0)]) := by
    refine lv_iconst (v := 0) hx hb d_Mod_alarm_14 (by decide) ?_
    refine lv_iconst (v := 0) hx hb d_Mod_alarm_15 (by decide) ?_
    refine lv_iconst (v := 0) hx hb d_Mod_alarm_16 (by decide) ?_
    refine x_upd (x_runV (C := "PlanRowsModel") (b := (ad 0)) (As := [.int (if (f_Mod_isDetector a1 a2) = 0 then 1 else 0 : Int32), .int 0, .int 0, .int 0]) (rest := []) ⟨hx, hb, hml, hown, hts⟩ (u_Mod_throwing l dC dI cI cZ ad hj x hI H.size (if (f_Mod_isDetector a1 a2) = 0 then 1 else 0 : Int32) 0 0 0) (cw_Mod_88 hts rfl rfl ⟨Nat.le_of_ble_eq_true rfl, Nat.le_of_ble_eq_true rfl⟩) ⟨PCZ.blind, va_recv hK hP (ci := 9) (q0 := 0) rfl rfl, PCZ.at hK hN hP⟩ rfl rfl hl.1 rfl (lv_room (Nat.le_of_ble_eq_true rfl)) d_Mod_alarm_17 ⟨Nat.zero_le _, Nat.zero_le _⟩) hS (fun q _ h => hA H hS.1 q h) (fun q h => hA H hS.1 q h) (fun t H1 locs ht hW hB hz1 hk1 hS => ?_)
    obtain ⟨hP, -, -⟩ := hB
    rw [ht] at hP
    generalize H1 = H at hP hS ⊢
    obtain ⟨y_3, hy_3⟩ : ∃ z, z = (g_Mod_throwing x (if (f_Mod_isDetector a1 a2) = 0 then 1 else 0 : Int32) 0 0 0).2 := ⟨_, rfl⟩
    rw [← hy_3] at hP
    have hty_3 : thr x y_3 := by rw [hy_3]; exact thr_throwing x (if (f_Mod_isDetector a1 a2) = 0 then 1 else 0 : Int32) 0 0 0
    have hI : RIn y_3 := ri_thr hty_3 hI0
    have hD : va_D A (wR cI cZ ad y_3) := hDx _
    refine lv_if_eq (tgt := 25) hx hb d_Mod_alarm_20 (by decide) (fun c_4 => ?_) (fun c_4 => ?_)
    · refine lv_aload_n hx hb d_Mod_alarm_25 rfl (lv_at hl 0 rfl) ?_
      refine lv_iload_n hx hb d_Mod_alarm_26 rfl (lv_at hl 1 rfl) ?_
      refine lv_iload_n hx hb d_Mod_alarm_27 rfl (lv_at hl 2 rfl) ?_
      refine xv (As := [.int a1, .int a2]) (rest := []) (C := "PlanRowsModel") ⟨hx, hb, hml, hown, hts⟩ (c_Mod_detectorOf l dC dI cI cZ ad y_3 hI a1 a2) (cw_Mod_130 hts rfl rfl ⟨Nat.le_of_ble_eq_true rfl, Nat.le_of_ble_eq_true rfl⟩) hK hN hP 0 rfl rfl rfl rfl hl.1 rfl (Nat.le_of_ble_eq_true rfl) d_Mod_alarm_28 ⟨Nat.zero_le _, Nat.zero_le _⟩ ?_
      refine lv_istore_n (lv' := [(3, .int (f_Mod_detectorOf y_3 a1 a2)), (0, .ref (ad 0)), (1, .int a1), (2, .int a2)]) hx hb d_Mod_alarm_31 rfl hl (by decide) rfl (fun ls hl => ?_)
      refine lv_iload_n hx hb d_Mod_alarm_32 rfl (lv_at hl 0 rfl) ?_
      refine lv_if_ge (tgt := 42) hx hb d_Mod_alarm_33 (by decide) (fun c_5 => ?_) (fun c_5 => ?_)
      · refine lv_aload_n hx hb d_Mod_alarm_42 rfl (lv_at hl 1 rfl) ?_
        refine va_get (D := (dC, dI)) (ci := 9) (v := .ref (ad 13)) (C := R_Mod) (T := F_Mod) (N := 31) hx hb hbw in_Mod hown hK hP 0 rfl rfl 19 (by decide) (hbw _ w_728) (fun _ h9 => h9) rfl d_Mod_alarm_43 ?_
        refine lv_iload_n hx hb d_Mod_alarm_46 rfl (lv_at hl 0 rfl) ?_
        have hixk : vp_in (f_Mod_detectorOf y_3 a1 a2) 100 := ix_dt hI c_5
        refine va_iald hx hb hK hP 13 0 rfl rfl hixk d_Mod_alarm_47 ?_
        subst hy_3
        have hg : g_Mod_alarm x a1 a2 = ((q_m_watched ((g_Mod_throwing x (if (f_Mod_isDetector a1 a2) = 0 then 1 else 0 : Int32) 0 0 0).2)) (f_Mod_detectorOf ((g_Mod_throwing x (if (f_Mod_isDetector a1 a2) = 0 then 1 else 0 : Int32) 0 0 0).2) a1 a2).toNatClampNeg, ((g_Mod_throwing x (if (f_Mod_isDetector a1 a2) = 0 then 1 else 0 : Int32) 0 0 0).2)) := by unfold g_Mod_alarm; rw [if_pos c_4, if_pos c_5]
        exact W.toX (W.iret (v := (q_m_watched ((g_Mod_throwing x (if (f_Mod_isDetector a1 a2) = 0 then 1 else 0 : Int32) 0 0 0).2)) (f_Mod_detectorOf ((g_Mod_throwing x (if (f_Mod_isDetector a1 a2) = 0 then 1 else 0 : Int32) 0 0 0).2) a1 a2).toNatClampNeg) hx hb hr (fun t ht hW => ⟨by rw [hg, pr_fst], ⟨by rw [ht, hg, pr_snd]; exact hP, va_K.moved hW.alike hK, hN.warm hW⟩, hS.F ht⟩) hS.2.2 d_Mod_alarm_48)
      · refine lv_iconst (v := (-1)) hx hb d_Mod_alarm_36 (by decide) ?_
        refine lv_iload_n hx hb d_Mod_alarm_37 rfl (lv_at hl 2 rfl) ?_
        refine lv_isub hx hb d_Mod_alarm_38 ?_
        refine lv_goto (tgt := 48) hx hb d_Mod_alarm_39 (by decide) ?_
        subst hy_3
        have hg : g_Mod_alarm x a1 a2 = ((-1) - a1, ((g_Mod_throwing x (if (f_Mod_isDetector a1 a2) = 0 then 1 else 0 : Int32) 0 0 0).2)) := by unfold g_Mod_alarm; rw [if_pos c_4, if_neg c_5]
        exact W.toX (W.iret (v := (-1) - a1) hx hb hr (fun t ht hW => ⟨by rw [hg, pr_fst], ⟨by rw [ht, hg, pr_snd]; exact hP, va_K.moved hW.alike hK, hN.warm hW⟩, hS.F ht⟩) hS.2.2 d_Mod_alarm_48)
    · refine lv_iconst (v := 0) hx hb d_Mod_alarm_23 (by decide) ?_
      subst hy_3
      have hg : g_Mod_alarm x a1 a2 = (0, ((g_Mod_throwing x (if (f_Mod_isDetector a1 a2) = 0 then 1 else 0 : Int32) 0 0 0).2)) := by unfold g_Mod_alarm; rw [if_neg c_4]
      exact W.toX (W.iret (v := 0) hx hb hr (fun t ht hW => ⟨by rw [hg, pr_fst], ⟨by rw [ht, hg, pr_snd]; exact hP, va_K.moved hW.alike hK, hN.warm hW⟩, hS.F ht⟩) hS.2.2 d_Mod_alarm_24)
  refine lv_if_ne (tgt := 13) hx hb d_Mod_alarm_6 (by decide) (fun c_2 => ?_) (fun c_2 => ?_)
  · refine lv_iconst (v := 0) hx hb d_Mod_alarm_13 (by decide) ?_
    rw [show (if (f_Mod_isDetector a1 a2) = 0 then 1 else 0 : Int32) = 0 from by rw [if_neg c_2]] at jn_1
    exact jn_1
  · refine lv_iconst (v := 1) hx hb d_Mod_alarm_9 (by decide) ?_
    refine lv_goto (tgt := 14) hx hb d_Mod_alarm_10 (by decide) ?_
    rw [show (if (f_Mod_isDetector a1 a2) = 0 then 1 else 0 : Int32) = 1 from by rw [if_pos c_2]] at jn_1
    exact jn_1
