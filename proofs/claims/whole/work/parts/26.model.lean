theorem i2_half {a : Int32} (h0 : 0 ≤ a.toInt) : (a / 2).toInt = a.toInt / 2 := by
  have h1 := a.toInt_lt
  rw [Int32.toInt_div, show (2 : Int32).toInt = 2 from rfl, Int.tdiv_eq_ediv_of_nonneg h0]
  exact Int.bmod_eq_of_le (by omega) (by omega)
theorem ld_m {lo hg : Int32} (h1 : 1 ≤ lo.toInt) (h2 : lo.toInt ≤ hg.toInt) (h3 : hg.toInt ≤ 200000) : ((lo + hg) / 2).toInt = (lo.toInt + hg.toInt) / 2 := by
  have e : (lo + hg).toInt = lo.toInt + hg.toInt := by
    rw [Int32.toInt_add]
    exact Int.bmod_eq_of_le (by omega) (by omega)
  rw [i2_half (by omega), e]
theorem ld_hi {lo hg : Int32} {k : Nat} (hi : 1 ≤ lo.toInt ∧ lo.toInt ≤ hg.toInt ∧ hg.toInt ≤ 200000 ∧ hg.toInt - lo.toInt < ((k + 1 : Nat) : Int)) (hc : ¬ hg ≤ lo) : 1 ≤ lo.toInt ∧ lo.toInt ≤ ((lo + hg) / 2).toInt ∧ ((lo + hg) / 2).toInt ≤ 200000 ∧ ((lo + hg) / 2).toInt - lo.toInt < (k : Int) := by
  obtain ⟨h1, h2, h3, h4⟩ := hi
  rw [Int32.le_iff_toInt_le] at hc
  rw [ld_m h1 h2 h3]
  omega
theorem ld_lo {lo hg : Int32} {k : Nat} (hi : 1 ≤ lo.toInt ∧ lo.toInt ≤ hg.toInt ∧ hg.toInt ≤ 200000 ∧ hg.toInt - lo.toInt < ((k + 1 : Nat) : Int)) (hc : ¬ hg ≤ lo) : 1 ≤ ((lo + hg) / 2 + 1).toInt ∧ ((lo + hg) / 2 + 1).toInt ≤ hg.toInt ∧ hg.toInt ≤ 200000 ∧ hg.toInt - ((lo + hg) / 2 + 1).toInt < (k : Int) := by
  obtain ⟨h1, h2, h3, h4⟩ := hi
  rw [Int32.le_iff_toInt_le] at hc
  have e : ((lo + hg) / 2 + 1).toInt = (lo.toInt + hg.toInt) / 2 + 1 := by
    rw [Int32.toInt_add, ld_m h1 h2 h3, show (1 : Int32).toInt = 1 from rfl]
    exact Int.bmod_eq_of_le (by omega) (by omega)
  rw [e]
  omega
def g_Mod_reaches (x : RT) (a1 a2 a3 a4 a5 : Int32) : Int32 × RT := if ((g_Mod_throwing x (if (f_Mod_in a1 0 ((q_m_windows x) - 1)) = 0 then 1 else 0 : Int32) (if (f_Mod_isPoint a2 a3 a4) = 0 then 1 else (if (f_Mod_in a5 1 200000) = 0 then 1 else 0) : Int32) 0 0).1) = 0 then (if ((q_m_windowZ ((g_Mod_throwing x (if (f_Mod_in a1 0 ((q_m_windows x) - 1)) = 0 then 1 else 0 : Int32) (if (f_Mod_isPoint a2 a3 a4) = 0 then 1 else (if (f_Mod_in a5 1 200000) = 0 then 1 else 0) : Int32) 0 0).2)) a1.toNatClampNeg) < a4 then (0, ((g_Mod_throwing x (if (f_Mod_in a1 0 ((q_m_windows x) - 1)) = 0 then 1 else 0 : Int32) (if (f_Mod_isPoint a2 a3 a4) = 0 then 1 else (if (f_Mod_in a5 1 200000) = 0 then 1 else 0) : Int32) 0 0).2)) else (if 0 < (lg_cmp (f_Mod_squareTo ((g_Mod_throwing x (if (f_Mod_in a1 0 ((q_m_windows x) - 1)) = 0 then 1 else 0 : Int32) (if (f_Mod_isPoint a2 a3 a4) = 0 then 1 else (if (f_Mod_in a5 1 200000) = 0 then 1 else 0) : Int32) 0 0).2) a1 a2 a3 a4) (a5.toInt64 * a5.toInt64)) then (0, ((g_Mod_throwing x (if (f_Mod_in a1 0 ((q_m_windows x) - 1)) = 0 then 1 else 0 : Int32) (if (f_Mod_isPoint a2 a3 a4) = 0 then 1 else (if (f_Mod_in a5 1 200000) = 0 then 1 else 0) : Int32) 0 0).2)) else (1, ((g_Mod_throwing x (if (f_Mod_in a1 0 ((q_m_windows x) - 1)) = 0 then 1 else 0 : Int32) (if (f_Mod_isPoint a2 a3 a4) = 0 then 1 else (if (f_Mod_in a5 1 200000) = 0 then 1 else 0) : Int32) 0 0).2)))) else (0, ((g_Mod_throwing x (if (f_Mod_in a1 0 ((q_m_windows x) - 1)) = 0 then 1 else 0 : Int32) (if (f_Mod_isPoint a2 a3 a4) = 0 then 1 else (if (f_Mod_in a5 1 200000) = 0 then 1 else 0) : Int32) 0 0).2))
set_option maxHeartbeats 400000 in
set_option maxRecDepth 100000 in
theorem u_Mod_reaches (l : Launch) (dC : Nat → ClassId) (dI : Nat → Nat → Nat) (cI cZ : ClassId) (ad : Nat → Nat) (hj : aInj 21 ad) (x : RT) (hI : RIn x) (sz : Nat) (a1 a2 a3 a4 a5 : Int32) : MX l y_Mod_reaches (Cond.code y_Mod_reaches b_Mod_reaches 7 (some .boolean) :: BW) { frames := 2, cells := 0, slots := 0, locals := 44 } (PCZ sz (dC, dI) [(cI, .int), (cZ, .boolean)] (wR cI cZ ad x) [.ref (ad 0), .int a1, .int a2, .int a3, .int a4, .int a5]) (UQ (some (.int (g_Mod_reaches x a1 a2 a3 a4 a5).1)) (WB (dC, dI) [(cI, .int), (cZ, .boolean)] (wR cI cZ ad (g_Mod_reaches x a1 a2 a3 a4 a5).2)) (aC 21 ad sz)) 0 0 (aC 21 ad sz) := by
  refine MX.ofW (cc := b_Mod_reaches) (maxL := 7) (ret := (some .boolean)) (by decide) rfl ?_
  intro p e s m args below meth c s₁ B hml hex hv
  obtain ⟨hsz, rfl, hP, hK, hN⟩ := hv
  subst hsz
  have hx := B.exec
  have hb := B.bytes
  have hr := B.returns
  have hts := atoms_spec (ws := Cond.code y_Mod_reaches b_Mod_reaches 7 (some .boolean) :: BW) B.pre
  have hbw : ∀ w ∈ BW, w.before ([.ref (ad 0), .int a1, .int a2, .int a3, .int a4, .int a5]).toArray s = true := fun w h => hts w (List.mem_cons_of_mem _ h)
  have hown : s.vm.findClass "PlanRowsModel" = some m.cls := findClass_of_methodNamed B.named
  have hlocks := B.notSynchronized
  have hDx : ∀ z, va_D (aC 21 ad s.heap.size) (wR cI cZ ad z) := fun z => w_D hj (wR_ad cI cZ ad z) _
  have hA : ∀ H : Heap, s.heap.size ≤ H.size → ∀ q, aC 21 ad H.size q → aC 21 ad s.heap.size q := fun H h => aC_le h
  generalize aC 21 ad s.heap.size = A at hDx hA ⊢
  have hD := hDx x
  have hS : va_S A s.heap s.heap [] := va_S.rf
  have hI0 := hI
  have hl := lv_entry ([.ref (ad 0), .int a1, .int a2, .int a3, .int a4, .int a5]) (n := 7) (Nat.le_of_ble_eq_true rfl)
  rw [lg_entry_eq]
  generalize (lg_sl ([.ref (ad 0), .int a1, .int a2, .int a3, .int a4, .int a5]) ++ List.replicate (7 - (lg_sl ([.ref (ad 0), .int a1, .int a2, .int a3, .int a4, .int a5])).length) Slot.unset).toArray = ls at hl ⊢
  obtain ⟨H, hH⟩ : ∃ H, H = s.heap := ⟨_, rfl⟩
  obtain ⟨locs, hlocs⟩ : ∃ locs : List Loc, locs = [] := ⟨_, rfl⟩
  have hP : va_P (dC, dI) clsA (wR cI cZ ad x) H := by rw [hH]; exact hP
  have hS : va_S A s.heap H locs := by rw [hH, hlocs]; exact hS
  rw [← hlocs]
  have hW0 : ∀ (R : Room) (Q : State → Prop) (g : JFrame), W p l e R s m ([.ref (ad 0), .int a1, .int a2, .int a3, .int a4, .int a5]).toArray below meth c H locs 0 0 Q g → W p l e R s m ([.ref (ad 0), .int a1, .int a2, .int a3, .int a4, .int a5]).toArray below meth c s.heap locs 0 0 Q g := fun R Q g h => by rw [← hH]; exact h
  refine hW0 _ _ _ ?_
  have hl : lv_has ls 7 [(0, .ref (ad 0)), (1, .int a1), (2, .int a2), (3, .int a3), (4, .int a4), (5, .int a5)] := hl
  refine lv_iload_n hx hb d_Mod_reaches_0 rfl (lv_at hl 1 rfl) ?_
  refine lv_iconst (v := 0) hx hb d_Mod_reaches_1 (by decide) ?_
  refine lv_aload_n hx hb d_Mod_reaches_2 rfl (lv_at hl 0 rfl) ?_
  refine va_get (D := (dC, dI)) (ci := 9) (v := .int (q_m_windows x)) (C := R_Mod) (T := F_Mod) (N := 31) hx hb hbw in_Mod hown hK hP 0 rfl rfl 25 (by decide) (hbw _ w_734) (fun _ h9 => h9) rfl d_Mod_reaches_3 ?_
  refine lv_iconst (v := 1) hx hb d_Mod_reaches_6 (by decide) ?_
  refine lv_isub hx hb d_Mod_reaches_7 ?_
  refine xs (As := [.int a1, .int 0, .int ((q_m_windows x) - 1)]) (rest := []) ⟨hx, hb, hml, hown, hts⟩ (c_Mod_in l dC dI _ _ a1 0 ((q_m_windows x) - 1)) (cw_Mod_84 hts rfl rfl ⟨Nat.le_of_ble_eq_true rfl, Nat.le_of_ble_eq_true rfl⟩) hK hN hP rfl hl.1 rfl (Nat.le_of_ble_eq_true rfl) d_Mod_reaches_8 ⟨Nat.zero_le _, Nat.zero_le _⟩ ?_
  have jn_1 : W p l e { frames := 2, cells := 0, slots := 0, locals := 44 } s m ([.ref (ad 0), .int a1, .int a2, .int a3, .int a4, .int a5]).toArray below meth c H locs 0 0 (MQX below (UQ (some (.int (g_Mod_reaches x a1 a2 a3 a4 a5).1)) (WB (dC, dI) [(cI, .int), (cZ, .boolean)] (wR cI cZ ad (g_Mod_reaches x a1 a2 a3 a4 a5).2)) A) ([.ref (ad 0), .int a1, .int a2, .int a3, .int a4, .int a5]).toArray s 0 0 A) (F0 m 19 ls [.int (if (f_Mod_in a1 0 ((q_m_windows x) - 1)) = 0 then 1 else 0 : Int32)]) := by
    refine lv_istore (lv' := [(6, .int (if (f_Mod_in a1 0 ((q_m_windows x) - 1)) = 0 then 1 else 0 : Int32)), (0, .ref (ad 0)), (1, .int a1), (2, .int a2), (3, .int a3), (4, .int a4), (5, .int a5)]) hx hb d_Mod_reaches_19 hl (by decide) rfl (fun ls hl => ?_)
    refine lv_aload_n hx hb d_Mod_reaches_21 rfl (lv_at hl 1 rfl) ?_
    refine lv_iload hx hb d_Mod_reaches_22 (lv_at hl 0 rfl) ?_
    refine lv_iload_n hx hb d_Mod_reaches_24 rfl (lv_at hl 3 rfl) ?_
    refine lv_iload_n hx hb d_Mod_reaches_25 rfl (lv_at hl 4 rfl) ?_
    refine lv_iload hx hb d_Mod_reaches_26 (lv_at hl 5 rfl) ?_
    refine xs (As := [.int a2, .int a3, .int a4]) (rest := [.int (if (f_Mod_in a1 0 ((q_m_windows x) - 1)) = 0 then 1 else 0 : Int32), .ref (ad 0)]) ⟨hx, hb, hml, hown, hts⟩ (c_Mod_isPoint l dC dI _ _ a2 a3 a4) (cw_Mod_142 hts rfl rfl ⟨Nat.le_of_ble_eq_true rfl, Nat.le_of_ble_eq_true rfl⟩) hK hN hP rfl hl.1 rfl (Nat.le_of_ble_eq_true rfl) d_Mod_reaches_28 ⟨Nat.zero_le _, Nat.zero_le _⟩ ?_
    have jn_3 : W p l e { frames := 2, cells := 0, slots := 0, locals := 44 } s m ([.ref (ad 0), .int a1, .int a2, .int a3, .int a4, .int a5]).toArray below meth c H locs 0 0 (MQX below (UQ (some (.int (g_Mod_reaches x a1 a2 a3 a4 a5).1)) (WB (dC, dI) [(cI, .int), (cZ, .boolean)] (wR cI cZ ad (g_Mod_reaches x a1 a2 a3 a4 a5).2)) A) ([.ref (ad 0), .int a1, .int a2, .int a3, .int a4, .int a5]).toArray s 0 0 A) (F0 m 50 ls [.int (if (f_Mod_isPoint a2 a3 a4) = 0 then 1 else (if (f_Mod_in a5 1 200000) = 0 then 1 else 0) : Int32), .int (if (f_Mod_in a1 0 ((q_m_windows x) - 1)) = 0 then 1 else 0 : Int32), .ref (ad 0)]) := by
      refine lv_iconst (v := 0) hx hb d_Mod_reaches_50 (by decide) ?_
      refine lv_iconst (v := 0) hx hb d_Mod_reaches_51 (by decide) ?_
      refine x_upd (x_runV (C := "PlanRowsModel") (b := (ad 0)) (As := [.int (if (f_Mod_in a1 0 ((q_m_windows x) - 1)) = 0 then 1 else 0 : Int32), .int (if (f_Mod_isPoint a2 a3 a4) = 0 then 1 else (if (f_Mod_in a5 1 200000) = 0 then 1 else 0) : Int32), .int 0, .int 0]) (rest := []) ⟨hx, hb, hml, hown, hts⟩ (u_Mod_throwing l dC dI cI cZ ad hj x hI H.size (if (f_Mod_in a1 0 ((q_m_windows x) - 1)) = 0 then 1 else 0 : Int32) (if (f_Mod_isPoint a2 a3 a4) = 0 then 1 else (if (f_Mod_in a5 1 200000) = 0 then 1 else 0) : Int32) 0 0) (cw_Mod_88 hts rfl rfl ⟨Nat.le_of_ble_eq_true rfl, Nat.le_of_ble_eq_true rfl⟩) ⟨PCZ.blind, va_recv hK hP (ci := 9) (q0 := 0) rfl rfl, PCZ.at hK hN hP⟩ rfl rfl hl.1 rfl (lv_room (Nat.le_of_ble_eq_true rfl)) d_Mod_reaches_52 ⟨Nat.zero_le _, Nat.zero_le _⟩) hS (fun q _ h => hA H hS.1 q h) (fun q h => hA H hS.1 q h) (fun t H1 locs ht hW hB hz1 hk1 hS => ?_)
      obtain ⟨hP, -, -⟩ := hB
      rw [ht] at hP
      generalize H1 = H at hP hS ⊢
      obtain ⟨y_6, hy_6⟩ : ∃ z, z = (g_Mod_throwing x (if (f_Mod_in a1 0 ((q_m_windows x) - 1)) = 0 then 1 else 0 : Int32) (if (f_Mod_isPoint a2 a3 a4) = 0 then 1 else (if (f_Mod_in a5 1 200000) = 0 then 1 else 0) : Int32) 0 0).2 := ⟨_, rfl⟩
      rw [← hy_6] at hP
      have hty_6 : thr x y_6 := by rw [hy_6]; exact thr_throwing x (if (f_Mod_in a1 0 ((q_m_windows x) - 1)) = 0 then 1 else 0 : Int32) (if (f_Mod_isPoint a2 a3 a4) = 0 then 1 else (if (f_Mod_in a5 1 200000) = 0 then 1 else 0) : Int32) 0 0
      have hI : RIn y_6 := ri_thr hty_6 hI0
      have hD : va_D A (wR cI cZ ad y_6) := hDx _
      refine lv_if_eq (tgt := 60) hx hb d_Mod_reaches_55 (by decide) (fun c_7 => ?_) (fun c_7 => ?_)
      · refine lv_aload_n hx hb d_Mod_reaches_60 rfl (lv_at hl 1 rfl) ?_
        refine va_get (D := (dC, dI)) (ci := 9) (v := .ref (ad 20)) (C := R_Mod) (T := F_Mod) (N := 31) hx hb hbw in_Mod hown hK hP 0 rfl rfl 28 (by decide) (hbw _ w_737) (fun _ h9 => h9) rfl d_Mod_reaches_61 ?_
        refine lv_iload_n hx hb d_Mod_reaches_64 rfl (lv_at hl 2 rfl) ?_
        refine va_iald hx hb hK hP 20 0 rfl rfl (ix_in (n := q_m_windows x) (if01 (th0 c_7).1) hI0.2.2.2.2.1 (by decide)) d_Mod_reaches_65 ?_
        refine lv_iload hx hb d_Mod_reaches_66 (lv_at hl 5 rfl) ?_
        refine lv_icmp_lt (tgt := 95) hx hb d_Mod_reaches_68 (by decide) (fun c_8 => ?_) (fun c_8 => ?_)
        · refine lv_iconst (v := 0) hx hb d_Mod_reaches_95 (by decide) ?_
          subst hy_6
          have hg : g_Mod_reaches x a1 a2 a3 a4 a5 = (0, ((g_Mod_throwing x (if (f_Mod_in a1 0 ((q_m_windows x) - 1)) = 0 then 1 else 0 : Int32) (if (f_Mod_isPoint a2 a3 a4) = 0 then 1 else (if (f_Mod_in a5 1 200000) = 0 then 1 else 0) : Int32) 0 0).2)) := by unfold g_Mod_reaches; rw [if_pos c_7, if_pos c_8]
          exact W.toX (W.zret (v := 0) (ty := .boolean) hx hb hr (by rfl) (fun t ht hW => ⟨by rw [hg, pr_fst], ⟨by rw [ht, hg, pr_snd]; exact hP, va_K.moved hW.alike hK, hN.warm hW⟩, hS.F ht⟩) hS.2.2 d_Mod_reaches_96)
        · refine lv_aload_n hx hb d_Mod_reaches_71 rfl (lv_at hl 1 rfl) ?_
          refine lv_iload_n hx hb d_Mod_reaches_72 rfl (lv_at hl 2 rfl) ?_
          refine lv_iload_n hx hb d_Mod_reaches_73 rfl (lv_at hl 3 rfl) ?_
          refine lv_iload_n hx hb d_Mod_reaches_74 rfl (lv_at hl 4 rfl) ?_
          refine lv_iload hx hb d_Mod_reaches_75 (lv_at hl 5 rfl) ?_
          refine xv (As := [.int a1, .int a2, .int a3, .int a4]) (rest := []) (C := "PlanRowsModel") ⟨hx, hb, hml, hown, hts⟩ (c_Mod_squareTo l dC dI cI cZ ad y_6 hI a1 a2 a3 a4 (ix_in (n := q_m_windows x) (if01 (th0 c_7).1) hI0.2.2.2.2.1 (by decide))) (cw_Mod_148 hts rfl rfl ⟨Nat.le_of_ble_eq_true rfl, Nat.le_of_ble_eq_true rfl⟩) hK hN hP 0 rfl rfl rfl rfl hl.1 rfl (Nat.le_of_ble_eq_true rfl) d_Mod_reaches_77 ⟨Nat.zero_le _, Nat.zero_le _⟩ ?_
          refine lv_iload hx hb d_Mod_reaches_80 (lv_at hl 6 rfl) ?_
          refine lv_i2l hx hb d_Mod_reaches_82 rfl ?_
          refine lv_iload hx hb d_Mod_reaches_83 (lv_at hl 6 rfl) ?_
          refine lv_i2l hx hb d_Mod_reaches_85 rfl ?_
          refine lv_lmul hx hb d_Mod_reaches_86 ?_
          refine W.lcmp hx hb d_Mod_reaches_87 ?_
          refine lv_if_gt (tgt := 95) hx hb d_Mod_reaches_88 (by decide) (fun c_9 => ?_) (fun c_9 => ?_)
          · refine lv_iconst (v := 0) hx hb d_Mod_reaches_95 (by decide) ?_
            subst hy_6
            have hg : g_Mod_reaches x a1 a2 a3 a4 a5 = (0, ((g_Mod_throwing x (if (f_Mod_in a1 0 ((q_m_windows x) - 1)) = 0 then 1 else 0 : Int32) (if (f_Mod_isPoint a2 a3 a4) = 0 then 1 else (if (f_Mod_in a5 1 200000) = 0 then 1 else 0) : Int32) 0 0).2)) := by unfold g_Mod_reaches; rw [if_pos c_7, if_neg c_8, if_pos c_9]
            exact W.toX (W.zret (v := 0) (ty := .boolean) hx hb hr (by rfl) (fun t ht hW => ⟨by rw [hg, pr_fst], ⟨by rw [ht, hg, pr_snd]; exact hP, va_K.moved hW.alike hK, hN.warm hW⟩, hS.F ht⟩) hS.2.2 d_Mod_reaches_96)
          · refine lv_iconst (v := 1) hx hb d_Mod_reaches_91 (by decide) ?_
            refine lv_goto (tgt := 96) hx hb d_Mod_reaches_92 (by decide) ?_
            subst hy_6
            have hg : g_Mod_reaches x a1 a2 a3 a4 a5 = (1, ((g_Mod_throwing x (if (f_Mod_in a1 0 ((q_m_windows x) - 1)) = 0 then 1 else 0 : Int32) (if (f_Mod_isPoint a2 a3 a4) = 0 then 1 else (if (f_Mod_in a5 1 200000) = 0 then 1 else 0) : Int32) 0 0).2)) := by unfold g_Mod_reaches; rw [if_pos c_7, if_neg c_8, if_neg c_9]
            exact W.toX (W.zret (v := 1) (ty := .boolean) hx hb hr (by rfl) (fun t ht hW => ⟨by rw [hg, pr_fst], ⟨by rw [ht, hg, pr_snd]; exact hP, va_K.moved hW.alike hK, hN.warm hW⟩, hS.F ht⟩) hS.2.2 d_Mod_reaches_96)
      · refine lv_iconst (v := 0) hx hb d_Mod_reaches_58 (by decide) ?_
        subst hy_6
        have hg : g_Mod_reaches x a1 a2 a3 a4 a5 = (0, ((g_Mod_throwing x (if (f_Mod_in a1 0 ((q_m_windows x) - 1)) = 0 then 1 else 0 : Int32) (if (f_Mod_isPoint a2 a3 a4) = 0 then 1 else (if (f_Mod_in a5 1 200000) = 0 then 1 else 0) : Int32) 0 0).2)) := by unfold g_Mod_reaches; rw [if_neg c_7]
        exact W.toX (W.zret (v := 0) (ty := .boolean) hx hb hr (by rfl) (fun t ht hW => ⟨by rw [hg, pr_fst], ⟨by rw [ht, hg, pr_snd]; exact hP, va_K.moved hW.alike hK, hN.warm hW⟩, hS.F ht⟩) hS.2.2 d_Mod_reaches_59)
    refine lv_if_eq (tgt := 45) hx hb d_Mod_reaches_31 (by decide) (fun c_4 => ?_) (fun c_4 => ?_)
    · refine lv_iconst (v := 1) hx hb d_Mod_reaches_45 (by decide) ?_
      refine lv_goto (tgt := 50) hx hb d_Mod_reaches_46 (by decide) ?_
      rw [show (if (f_Mod_isPoint a2 a3 a4) = 0 then 1 else (if (f_Mod_in a5 1 200000) = 0 then 1 else 0) : Int32) = 1 from by rw [if_pos c_4]] at jn_3
      exact jn_3
    · refine lv_iload hx hb d_Mod_reaches_34 (lv_at hl 6 rfl) ?_
      refine lv_iconst (v := 1) hx hb d_Mod_reaches_36 (by decide) ?_
      refine lv_ldc (v := 200000) hx hb hown (hbw _ w_913) d_Mod_reaches_37 ?_
      refine xs (As := [.int a5, .int 1, .int 200000]) (rest := [.int (if (f_Mod_in a1 0 ((q_m_windows x) - 1)) = 0 then 1 else 0 : Int32), .ref (ad 0)]) ⟨hx, hb, hml, hown, hts⟩ (c_Mod_in l dC dI _ _ a5 1 200000) (cw_Mod_84 hts rfl rfl ⟨Nat.le_of_ble_eq_true rfl, Nat.le_of_ble_eq_true rfl⟩) hK hN hP rfl hl.1 rfl (Nat.le_of_ble_eq_true rfl) d_Mod_reaches_39 ⟨Nat.zero_le _, Nat.zero_le _⟩ ?_
      refine lv_if_ne (tgt := 49) hx hb d_Mod_reaches_42 (by decide) (fun c_5 => ?_) (fun c_5 => ?_)
      · refine lv_iconst (v := 0) hx hb d_Mod_reaches_49 (by decide) ?_
        rw [show (if (f_Mod_isPoint a2 a3 a4) = 0 then 1 else (if (f_Mod_in a5 1 200000) = 0 then 1 else 0) : Int32) = 0 from by rw [if_neg c_4, if_neg c_5]] at jn_3
        exact jn_3
      · refine lv_iconst (v := 1) hx hb d_Mod_reaches_45 (by decide) ?_
        refine lv_goto (tgt := 50) hx hb d_Mod_reaches_46 (by decide) ?_
        rw [show (if (f_Mod_isPoint a2 a3 a4) = 0 then 1 else (if (f_Mod_in a5 1 200000) = 0 then 1 else 0) : Int32) = 1 from by rw [if_neg c_4, if_pos c_5]] at jn_3
        exact jn_3
  refine lv_if_ne (tgt := 18) hx hb d_Mod_reaches_11 (by decide) (fun c_2 => ?_) (fun c_2 => ?_)
  · refine lv_iconst (v := 0) hx hb d_Mod_reaches_18 (by decide) ?_
    rw [show (if (f_Mod_in a1 0 ((q_m_windows x) - 1)) = 0 then 1 else 0 : Int32) = 0 from by rw [if_neg c_2]] at jn_1
    exact jn_1
  · refine lv_iconst (v := 1) hx hb d_Mod_reaches_14 (by decide) ?_
    refine lv_goto (tgt := 19) hx hb d_Mod_reaches_15 (by decide) ?_
    rw [show (if (f_Mod_in a1 0 ((q_m_windows x) - 1)) = 0 then 1 else 0 : Int32) = 1 from by rw [if_pos c_2]] at jn_1
    exact jn_1
def L_Mod_ladder (a1 a2 a3 a4 : Int32) : Nat → Int64 → Int32 → Int32 → RT → Int32 × RT
  | 0, _, _, _, z => (0, z)
  | k + 1, sq, lo, hg, z => if hg ≤ lo then (lo, z) else (if (lg_cmp ((((lo + hg) / 2).toInt64) * (((lo + hg) / 2).toInt64)) sq) < 0 then L_Mod_ladder a1 a2 a3 a4 k sq (((lo + hg) / 2) + 1) hg z else L_Mod_ladder a1 a2 a3 a4 k sq lo ((lo + hg) / 2) z)
theorem L_Mod_ladder_s (a1 a2 a3 a4 : Int32) (k : Nat) (sq : Int64) (lo : Int32) (hg : Int32) (z : RT) : L_Mod_ladder a1 a2 a3 a4 (k + 1) sq lo hg z = if hg ≤ lo then (lo, z) else (if (lg_cmp ((((lo + hg) / 2).toInt64) * (((lo + hg) / 2).toInt64)) sq) < 0 then L_Mod_ladder a1 a2 a3 a4 k sq (((lo + hg) / 2) + 1) hg z else L_Mod_ladder a1 a2 a3 a4 k sq lo ((lo + hg) / 2) z) := rfl
def g_Mod_ladder (x : RT) (a1 a2 a3 a4 : Int32) : Int32 × RT := if ((g_Mod_throwing x (if (f_Mod_in a1 0 ((q_m_windows x) - 1)) = 0 then 1 else 0 : Int32) (if (f_Mod_isPoint a2 a3 a4) = 0 then 1 else 0 : Int32) 0 0).1) = 0 then (if ((q_m_windowZ ((g_Mod_throwing x (if (f_Mod_in a1 0 ((q_m_windows x) - 1)) = 0 then 1 else 0 : Int32) (if (f_Mod_isPoint a2 a3 a4) = 0 then 1 else 0 : Int32) 0 0).2)) a1.toNatClampNeg) < a4 then ((-1), ((g_Mod_throwing x (if (f_Mod_in a1 0 ((q_m_windows x) - 1)) = 0 then 1 else 0 : Int32) (if (f_Mod_isPoint a2 a3 a4) = 0 then 1 else 0 : Int32) 0 0).2)) else (if (lg_cmp (f_Mod_squareTo ((g_Mod_throwing x (if (f_Mod_in a1 0 ((q_m_windows x) - 1)) = 0 then 1 else 0 : Int32) (if (f_Mod_isPoint a2 a3 a4) = 0 then 1 else 0 : Int32) 0 0).2) a1 a2 a3 a4) 40000000000) ≤ 0 then L_Mod_ladder a1 a2 a3 a4 200000 (f_Mod_squareTo ((g_Mod_throwing x (if (f_Mod_in a1 0 ((q_m_windows x) - 1)) = 0 then 1 else 0 : Int32) (if (f_Mod_isPoint a2 a3 a4) = 0 then 1 else 0 : Int32) 0 0).2) a1 a2 a3 a4) 1 200000 ((g_Mod_throwing x (if (f_Mod_in a1 0 ((q_m_windows x) - 1)) = 0 then 1 else 0 : Int32) (if (f_Mod_isPoint a2 a3 a4) = 0 then 1 else 0 : Int32) 0 0).2) else ((-1), ((g_Mod_throwing x (if (f_Mod_in a1 0 ((q_m_windows x) - 1)) = 0 then 1 else 0 : Int32) (if (f_Mod_isPoint a2 a3 a4) = 0 then 1 else 0 : Int32) 0 0).2)))) else (0, ((g_Mod_throwing x (if (f_Mod_in a1 0 ((q_m_windows x) - 1)) = 0 then 1 else 0 : Int32) (if (f_Mod_isPoint a2 a3 a4) = 0 then 1 else 0 : Int32) 0 0).2))
set_option maxHeartbeats 400000 in
set_option maxRecDepth 100000 in
theorem u_Mod_ladder (l : Launch) (dC : Nat → ClassId) (dI : Nat → Nat → Nat) (cI cZ : ClassId) (ad : Nat → Nat) (hj : aInj 21 ad) (x : RT) (hI : RIn x) (sz : Nat) (a1 a2 a3 a4 : Int32) : MX l y_Mod_ladder (Cond.code y_Mod_ladder b_Mod_ladder 11 (some .int) :: BW) { frames := 2, cells := 0, slots := 0, locals := 44 } (PCZ sz (dC, dI) [(cI, .int), (cZ, .boolean)] (wR cI cZ ad x) [.ref (ad 0), .int a1, .int a2, .int a3, .int a4]) (UQ (some (.int (g_Mod_ladder x a1 a2 a3 a4).1)) (WB (dC, dI) [(cI, .int), (cZ, .boolean)] (wR cI cZ ad (g_Mod_ladder x a1 a2 a3 a4).2)) (aC 21 ad sz)) 0 0 (aC 21 ad sz) := by
  refine MX.ofW (cc := b_Mod_ladder) (maxL := 11) (ret := (some .int)) (by decide) rfl ?_
  intro p e s m args below meth c s₁ B hml hex hv
  obtain ⟨hsz, rfl, hP, hK, hN⟩ := hv
  subst hsz
  have hx := B.exec
  have hb := B.bytes
  have hr := B.returns
  have hts := atoms_spec (ws := Cond.code y_Mod_ladder b_Mod_ladder 11 (some .int) :: BW) B.pre
  have hbw : ∀ w ∈ BW, w.before ([.ref (ad 0), .int a1, .int a2, .int a3, .int a4]).toArray s = true := fun w h => hts w (List.mem_cons_of_mem _ h)
  have hown : s.vm.findClass "PlanRowsModel" = some m.cls := findClass_of_methodNamed B.named
  have hlocks := B.notSynchronized
  have hDx : ∀ z, va_D (aC 21 ad s.heap.size) (wR cI cZ ad z) := fun z => w_D hj (wR_ad cI cZ ad z) _
  have hA : ∀ H : Heap, s.heap.size ≤ H.size → ∀ q, aC 21 ad H.size q → aC 21 ad s.heap.size q := fun H h => aC_le h
  generalize aC 21 ad s.heap.size = A at hDx hA ⊢
  have hD := hDx x
  have hS : va_S A s.heap s.heap [] := va_S.rf
  have hI0 := hI
  have hl := lv_entry ([.ref (ad 0), .int a1, .int a2, .int a3, .int a4]) (n := 11) (Nat.le_of_ble_eq_true rfl)
  rw [lg_entry_eq]
  generalize (lg_sl ([.ref (ad 0), .int a1, .int a2, .int a3, .int a4]) ++ List.replicate (11 - (lg_sl ([.ref (ad 0), .int a1, .int a2, .int a3, .int a4])).length) Slot.unset).toArray = ls at hl ⊢
  obtain ⟨H, hH⟩ : ∃ H, H = s.heap := ⟨_, rfl⟩
  obtain ⟨locs, hlocs⟩ : ∃ locs : List Loc, locs = [] := ⟨_, rfl⟩
  have hP : va_P (dC, dI) clsA (wR cI cZ ad x) H := by rw [hH]; exact hP
  have hS : va_S A s.heap H locs := by rw [hH, hlocs]; exact hS
  rw [← hlocs]
  have hW0 : ∀ (R : Room) (Q : State → Prop) (g : JFrame), W p l e R s m ([.ref (ad 0), .int a1, .int a2, .int a3, .int a4]).toArray below meth c H locs 0 0 Q g → W p l e R s m ([.ref (ad 0), .int a1, .int a2, .int a3, .int a4]).toArray below meth c s.heap locs 0 0 Q g := fun R Q g h => by rw [← hH]; exact h
  refine hW0 _ _ _ ?_
  have hl : lv_has ls 11 [(0, .ref (ad 0)), (1, .int a1), (2, .int a2), (3, .int a3), (4, .int a4)] := hl
  refine lv_iload_n hx hb d_Mod_ladder_0 rfl (lv_at hl 1 rfl) ?_
  refine lv_iconst (v := 0) hx hb d_Mod_ladder_1 (by decide) ?_
  refine lv_aload_n hx hb d_Mod_ladder_2 rfl (lv_at hl 0 rfl) ?_
  refine va_get (D := (dC, dI)) (ci := 9) (v := .int (q_m_windows x)) (C := R_Mod) (T := F_Mod) (N := 31) hx hb hbw in_Mod hown hK hP 0 rfl rfl 25 (by decide) (hbw _ w_734) (fun _ h9 => h9) rfl d_Mod_ladder_3 ?_
  refine lv_iconst (v := 1) hx hb d_Mod_ladder_6 (by decide) ?_
  refine lv_isub hx hb d_Mod_ladder_7 ?_
  refine xs (As := [.int a1, .int 0, .int ((q_m_windows x) - 1)]) (rest := []) ⟨hx, hb, hml, hown, hts⟩ (c_Mod_in l dC dI _ _ a1 0 ((q_m_windows x) - 1)) (cw_Mod_84 hts rfl rfl ⟨Nat.le_of_ble_eq_true rfl, Nat.le_of_ble_eq_true rfl⟩) hK hN hP rfl hl.1 rfl (Nat.le_of_ble_eq_true rfl) d_Mod_ladder_8 ⟨Nat.zero_le _, Nat.zero_le _⟩ ?_
  have jn_1 : W p l e { frames := 2, cells := 0, slots := 0, locals := 44 } s m ([.ref (ad 0), .int a1, .int a2, .int a3, .int a4]).toArray below meth c H locs 0 0 (MQX below (UQ (some (.int (g_Mod_ladder x a1 a2 a3 a4).1)) (WB (dC, dI) [(cI, .int), (cZ, .boolean)] (wR cI cZ ad (g_Mod_ladder x a1 a2 a3 a4).2)) A) ([.ref (ad 0), .int a1, .int a2, .int a3, .int a4]).toArray s 0 0 A) (F0 m 19 ls [.int (if (f_Mod_in a1 0 ((q_m_windows x) - 1)) = 0 then 1 else 0 : Int32)]) := by
    refine lv_istore (lv' := [(5, .int (if (f_Mod_in a1 0 ((q_m_windows x) - 1)) = 0 then 1 else 0 : Int32)), (0, .ref (ad 0)), (1, .int a1), (2, .int a2), (3, .int a3), (4, .int a4)]) hx hb d_Mod_ladder_19 hl (by decide) rfl (fun ls hl => ?_)
    refine lv_aload_n hx hb d_Mod_ladder_21 rfl (lv_at hl 1 rfl) ?_
    refine lv_iload hx hb d_Mod_ladder_22 (lv_at hl 0 rfl) ?_
    refine lv_iload_n hx hb d_Mod_ladder_24 rfl (lv_at hl 3 rfl) ?_
    refine lv_iload_n hx hb d_Mod_ladder_25 rfl (lv_at hl 4 rfl) ?_
    refine lv_iload hx hb d_Mod_ladder_26 (lv_at hl 5 rfl) ?_
    refine xs (As := [.int a2, .int a3, .int a4]) (rest := [.int (if (f_Mod_in a1 0 ((q_m_windows x) - 1)) = 0 then 1 else 0 : Int32), .ref (ad 0)]) ⟨hx, hb, hml, hown, hts⟩ (c_Mod_isPoint l dC dI _ _ a2 a3 a4) (cw_Mod_142 hts rfl rfl ⟨Nat.le_of_ble_eq_true rfl, Nat.le_of_ble_eq_true rfl⟩) hK hN hP rfl hl.1 rfl (Nat.le_of_ble_eq_true rfl) d_Mod_ladder_28 ⟨Nat.zero_le _, Nat.zero_le _⟩ ?_
    have jn_3 : W p l e { frames := 2, cells := 0, slots := 0, locals := 44 } s m ([.ref (ad 0), .int a1, .int a2, .int a3, .int a4]).toArray below meth c H locs 0 0 (MQX below (UQ (some (.int (g_Mod_ladder x a1 a2 a3 a4).1)) (WB (dC, dI) [(cI, .int), (cZ, .boolean)] (wR cI cZ ad (g_Mod_ladder x a1 a2 a3 a4).2)) A) ([.ref (ad 0), .int a1, .int a2, .int a3, .int a4]).toArray s 0 0 A) (F0 m 39 ls [.int (if (f_Mod_isPoint a2 a3 a4) = 0 then 1 else 0 : Int32), .int (if (f_Mod_in a1 0 ((q_m_windows x) - 1)) = 0 then 1 else 0 : Int32), .ref (ad 0)]) := by
      refine lv_iconst (v := 0) hx hb d_Mod_ladder_39 (by decide) ?_
      refine lv_iconst (v := 0) hx hb d_Mod_ladder_40 (by decide) ?_
      refine x_upd (x_runV (C := "PlanRowsModel") (b := (ad 0)) (As := [.int (if (f_Mod_in a1 0 ((q_m_windows x) - 1)) = 0 then 1 else 0 : Int32), .int (if (f_Mod_isPoint a2 a3 a4) = 0 then 1 else 0 : Int32), .int 0, .int 0]) (rest := []) ⟨hx, hb, hml, hown, hts⟩ (u_Mod_throwing l dC dI cI cZ ad hj x hI H.size (if (f_Mod_in a1 0 ((q_m_windows x) - 1)) = 0 then 1 else 0 : Int32) (if (f_Mod_isPoint a2 a3 a4) = 0 then 1 else 0 : Int32) 0 0) (cw_Mod_88 hts rfl rfl ⟨Nat.le_of_ble_eq_true rfl, Nat.le_of_ble_eq_true rfl⟩) ⟨PCZ.blind, va_recv hK hP (ci := 9) (q0 := 0) rfl rfl, PCZ.at hK hN hP⟩ rfl rfl hl.1 rfl (lv_room (Nat.le_of_ble_eq_true rfl)) d_Mod_ladder_41 ⟨Nat.zero_le _, Nat.zero_le _⟩) hS (fun q _ h => hA H hS.1 q h) (fun q h => hA H hS.1 q h) (fun t H1 locs ht hW hB hz1 hk1 hS => ?_)
      obtain ⟨hP, -, -⟩ := hB
      rw [ht] at hP
      generalize H1 = H at hP hS ⊢
      obtain ⟨y_5, hy_5⟩ : ∃ z, z = (g_Mod_throwing x (if (f_Mod_in a1 0 ((q_m_windows x) - 1)) = 0 then 1 else 0 : Int32) (if (f_Mod_isPoint a2 a3 a4) = 0 then 1 else 0 : Int32) 0 0).2 := ⟨_, rfl⟩
      rw [← hy_5] at hP
      have hty_5 : thr x y_5 := by rw [hy_5]; exact thr_throwing x (if (f_Mod_in a1 0 ((q_m_windows x) - 1)) = 0 then 1 else 0 : Int32) (if (f_Mod_isPoint a2 a3 a4) = 0 then 1 else 0 : Int32) 0 0
      have hI : RIn y_5 := ri_thr hty_5 hI0
      have hD : va_D A (wR cI cZ ad y_5) := hDx _
      refine lv_if_eq (tgt := 49) hx hb d_Mod_ladder_44 (by decide) (fun c_6 => ?_) (fun c_6 => ?_)
      · refine lv_aload_n hx hb d_Mod_ladder_49 rfl (lv_at hl 1 rfl) ?_
        refine lv_iload_n hx hb d_Mod_ladder_50 rfl (lv_at hl 2 rfl) ?_
        refine lv_iload_n hx hb d_Mod_ladder_51 rfl (lv_at hl 3 rfl) ?_
        refine lv_iload_n hx hb d_Mod_ladder_52 rfl (lv_at hl 4 rfl) ?_
        refine lv_iload hx hb d_Mod_ladder_53 (lv_at hl 5 rfl) ?_
        refine xv (As := [.int a1, .int a2, .int a3, .int a4]) (rest := []) (C := "PlanRowsModel") ⟨hx, hb, hml, hown, hts⟩ (c_Mod_squareTo l dC dI cI cZ ad y_5 hI a1 a2 a3 a4 (ix_in (n := q_m_windows x) (if01 (th0 c_6).1) hI0.2.2.2.2.1 (by decide))) (cw_Mod_148 hts rfl rfl ⟨Nat.le_of_ble_eq_true rfl, Nat.le_of_ble_eq_true rfl⟩) hK hN hP 0 rfl rfl rfl rfl hl.1 rfl (Nat.le_of_ble_eq_true rfl) d_Mod_ladder_55 ⟨Nat.zero_le _, Nat.zero_le _⟩ ?_
        refine lv_lstore (lv' := [(6, .long (f_Mod_squareTo y_5 a1 a2 a3 a4)), (5, .int (if (f_Mod_in a1 0 ((q_m_windows x) - 1)) = 0 then 1 else 0 : Int32)), (0, .ref (ad 0)), (1, .int a1), (2, .int a2), (3, .int a3), (4, .int a4)]) hx hb d_Mod_ladder_58 hl (by decide) rfl (fun ls hl => ?_)
        refine lv_aload_n hx hb d_Mod_ladder_60 rfl (lv_at hl 2 rfl) ?_
        refine va_get (D := (dC, dI)) (ci := 9) (v := .ref (ad 20)) (C := R_Mod) (T := F_Mod) (N := 31) hx hb hbw in_Mod hown hK hP 0 rfl rfl 28 (by decide) (hbw _ w_737) (fun _ h9 => h9) rfl d_Mod_ladder_61 ?_
        refine lv_iload_n hx hb d_Mod_ladder_64 rfl (lv_at hl 3 rfl) ?_
        refine va_iald hx hb hK hP 20 0 rfl rfl (ix_in (n := q_m_windows x) (if01 (th0 c_6).1) hI0.2.2.2.2.1 (by decide)) d_Mod_ladder_65 ?_
        refine lv_iload hx hb d_Mod_ladder_66 (lv_at hl 6 rfl) ?_
        refine lv_icmp_lt (tgt := 80) hx hb d_Mod_ladder_68 (by decide) (fun c_7 => ?_) (fun c_7 => ?_)
        · refine lv_iconst (v := (-1)) hx hb d_Mod_ladder_80 (by decide) ?_
          subst hy_5
          have hg : g_Mod_ladder x a1 a2 a3 a4 = ((-1), ((g_Mod_throwing x (if (f_Mod_in a1 0 ((q_m_windows x) - 1)) = 0 then 1 else 0 : Int32) (if (f_Mod_isPoint a2 a3 a4) = 0 then 1 else 0 : Int32) 0 0).2)) := by unfold g_Mod_ladder; rw [if_pos c_6, if_pos c_7]
          exact W.toX (W.iret (v := (-1)) hx hb hr (fun t ht hW => ⟨by rw [hg, pr_fst], ⟨by rw [ht, hg, pr_snd]; exact hP, va_K.moved hW.alike hK, hN.warm hW⟩, hS.F ht⟩) hS.2.2 d_Mod_ladder_81)
        · refine lv_lload hx hb d_Mod_ladder_71 (lv_at hl 0 rfl) ?_
          refine lv_ldc2 (v := 40000000000) hx hb hown (hbw _ w_926) d_Mod_ladder_73 ?_
          refine W.lcmp hx hb d_Mod_ladder_76 ?_
          refine lv_if_le (tgt := 82) hx hb d_Mod_ladder_77 (by decide) (fun c_8 => ?_) (fun c_8 => ?_)
          · refine lv_iconst (v := 1) hx hb d_Mod_ladder_82 (by decide) ?_
            refine lv_istore (lv' := [(8, .int 1), (6, .long (f_Mod_squareTo y_5 a1 a2 a3 a4)), (5, .int (if (f_Mod_in a1 0 ((q_m_windows x) - 1)) = 0 then 1 else 0 : Int32)), (0, .ref (ad 0)), (1, .int a1), (2, .int a2), (3, .int a3), (4, .int a4)]) hx hb d_Mod_ladder_83 hl (by decide) rfl (fun ls hl => ?_)
            refine lv_ldc (v := 200000) hx hb hown (hbw _ w_913) d_Mod_ladder_85 ?_
            refine lv_istore (lv' := [(9, .int 200000), (8, .int 1), (6, .long (f_Mod_squareTo y_5 a1 a2 a3 a4)), (5, .int (if (f_Mod_in a1 0 ((q_m_windows x) - 1)) = 0 then 1 else 0 : Int32)), (0, .ref (ad 0)), (1, .int a1), (2, .int a2), (3, .int a3), (4, .int a4)]) hx hb d_Mod_ladder_87 hl (by decide) rfl (fun ls hl => ?_)
            have loop : ∀ (k : Nat) (sq : Int64) (lo : Int32) (hg : Int32) (z : RT) (ls : Array Slot) (H : Heap) (locs : List Loc), 1 ≤ lo.toInt ∧ lo.toInt ≤ hg.toInt ∧ hg.toInt ≤ 200000 ∧ hg.toInt - lo.toInt < ((k : Nat) : Int) → thr x z → g_Mod_ladder x a1 a2 a3 a4 = L_Mod_ladder a1 a2 a3 a4 k sq lo hg z → va_P (dC, dI) clsA (wR cI cZ ad z) H → va_S A s.heap H locs → lv_has ls 11 [(9, .int hg), (8, .int lo), (6, .long sq), (5, .int (if (f_Mod_in a1 0 ((q_m_windows x) - 1)) = 0 then 1 else 0 : Int32)), (0, .ref (ad 0)), (1, .int a1), (2, .int a2), (3, .int a3), (4, .int a4)] → W p l e { frames := 2, cells := 0, slots := 0, locals := 44 } s m ([.ref (ad 0), .int a1, .int a2, .int a3, .int a4]).toArray below meth c H locs 0 0 (MQX below (UQ (some (.int (g_Mod_ladder x a1 a2 a3 a4).1)) (WB (dC, dI) [(cI, .int), (cZ, .boolean)] (wR cI cZ ad (g_Mod_ladder x a1 a2 a3 a4).2)) A) ([.ref (ad 0), .int a1, .int a2, .int a3, .int a4]).toArray s 0 0 A) (F0 m 89 ls []) := by
              intro k
              induction k with
              | zero =>
                intro sq lo hg z ls H locs hi hz hq hP hS hl
                obtain ⟨h1, h2, h3, h4⟩ := hi
                omega
              | succ k ih =>
                intro sq lo hg z ls H locs hi hz hq hP hS hl
                have hq := hq.trans (L_Mod_ladder_s a1 a2 a3 a4 k sq lo hg z)
                have hI := (ri_thr hz hI0)
                have hD := hDx z
                refine lv_iload hx hb d_Mod_ladder_89 (lv_at hl 1 rfl) ?_
                refine lv_iload hx hb d_Mod_ladder_91 (lv_at hl 0 rfl) ?_
                refine lv_icmp_ge (tgt := 134) hx hb d_Mod_ladder_93 (by decide) (fun c_9 => ?_) (fun c_9 => ?_)
                · refine lv_iload hx hb d_Mod_ladder_134 (lv_at hl 1 rfl) ?_
                  have hg : g_Mod_ladder x a1 a2 a3 a4 = (lo, z) := by rw [hq, if_pos c_9]
                  exact W.toX (W.iret (v := lo) hx hb hr (fun t ht hW => ⟨by rw [hg, pr_fst], ⟨by rw [ht, hg, pr_snd]; exact hP, va_K.moved hW.alike hK, hN.warm hW⟩, hS.F ht⟩) hS.2.2 d_Mod_ladder_136)
                · refine lv_iload hx hb d_Mod_ladder_96 (lv_at hl 1 rfl) ?_
                  refine lv_iload hx hb d_Mod_ladder_98 (lv_at hl 0 rfl) ?_
                  refine lv_iadd hx hb d_Mod_ladder_100 ?_
                  refine lv_iconst (v := 2) hx hb d_Mod_ladder_101 (by decide) ?_
                  refine lv_idiv hx hb d_Mod_ladder_102 (by decide) ?_
                  refine lv_istore (lv' := [(10, .int ((lo + hg) / 2)), (9, .int hg), (8, .int lo), (6, .long sq), (5, .int (if (f_Mod_in a1 0 ((q_m_windows x) - 1)) = 0 then 1 else 0 : Int32)), (0, .ref (ad 0)), (1, .int a1), (2, .int a2), (3, .int a3), (4, .int a4)]) hx hb d_Mod_ladder_103 hl (by decide) rfl (fun ls hl => ?_)
                  refine lv_iload hx hb d_Mod_ladder_105 (lv_at hl 0 rfl) ?_
                  refine lv_i2l hx hb d_Mod_ladder_107 rfl ?_
                  refine lv_iload hx hb d_Mod_ladder_108 (lv_at hl 0 rfl) ?_
                  refine lv_i2l hx hb d_Mod_ladder_110 rfl ?_
                  refine lv_lmul hx hb d_Mod_ladder_111 ?_
                  refine lv_lload hx hb d_Mod_ladder_112 (lv_at hl 3 rfl) ?_
                  refine W.lcmp hx hb d_Mod_ladder_114 ?_
                  refine lv_if_lt (tgt := 125) hx hb d_Mod_ladder_115 (by decide) (fun c_10 => ?_) (fun c_10 => ?_)
                  · refine lv_iload hx hb d_Mod_ladder_125 (lv_at hl 0 rfl) ?_
                    refine lv_iconst (v := 1) hx hb d_Mod_ladder_127 (by decide) ?_
                    refine lv_iadd hx hb d_Mod_ladder_128 ?_
                    refine lv_istore (lv' := [(8, .int (((lo + hg) / 2) + 1)), (10, .int ((lo + hg) / 2)), (9, .int hg), (6, .long sq), (5, .int (if (f_Mod_in a1 0 ((q_m_windows x) - 1)) = 0 then 1 else 0 : Int32)), (0, .ref (ad 0)), (1, .int a1), (2, .int a2), (3, .int a3), (4, .int a4)]) hx hb d_Mod_ladder_129 hl (by decide) rfl (fun ls hl => ?_)
                    refine lv_goto (tgt := 89) hx hb d_Mod_ladder_131 (by decide) ?_
                    exact ih sq (((lo + hg) / 2) + 1) hg z ls H locs (ld_lo hi c_9) hz (by rw [hq, if_neg c_9, if_pos c_10]) hP hS (lv_sub hl [2, 0, 3, 4, 5, 6, 7, 8, 9] rfl)
                  · refine lv_iload hx hb d_Mod_ladder_118 (lv_at hl 0 rfl) ?_
                    refine lv_istore (lv' := [(9, .int ((lo + hg) / 2)), (10, .int ((lo + hg) / 2)), (8, .int lo), (6, .long sq), (5, .int (if (f_Mod_in a1 0 ((q_m_windows x) - 1)) = 0 then 1 else 0 : Int32)), (0, .ref (ad 0)), (1, .int a1), (2, .int a2), (3, .int a3), (4, .int a4)]) hx hb d_Mod_ladder_120 hl (by decide) rfl (fun ls hl => ?_)
                    refine lv_goto (tgt := 131) hx hb d_Mod_ladder_122 (by decide) ?_
                    refine lv_goto (tgt := 89) hx hb d_Mod_ladder_131 (by decide) ?_
                    exact ih sq lo ((lo + hg) / 2) z ls H locs (ld_hi hi c_9) hz (by rw [hq, if_neg c_9, if_neg c_10]) hP hS (lv_sub hl [0, 2, 3, 4, 5, 6, 7, 8, 9] rfl)
            exact loop 200000 (f_Mod_squareTo y_5 a1 a2 a3 a4) 1 200000 y_5 ls H locs (by decide) (show thr x y_5 from hty_5) (by subst hy_5; unfold g_Mod_ladder; rw [if_pos c_6, if_neg c_7, if_pos c_8]) hP hS (lv_sub hl [0, 1, 2, 3, 4, 5, 6, 7, 8] rfl)
          · refine lv_iconst (v := (-1)) hx hb d_Mod_ladder_80 (by decide) ?_
            subst hy_5
            have hg : g_Mod_ladder x a1 a2 a3 a4 = ((-1), ((g_Mod_throwing x (if (f_Mod_in a1 0 ((q_m_windows x) - 1)) = 0 then 1 else 0 : Int32) (if (f_Mod_isPoint a2 a3 a4) = 0 then 1 else 0 : Int32) 0 0).2)) := by unfold g_Mod_ladder; rw [if_pos c_6, if_neg c_7, if_neg c_8]
            exact W.toX (W.iret (v := (-1)) hx hb hr (fun t ht hW => ⟨by rw [hg, pr_fst], ⟨by rw [ht, hg, pr_snd]; exact hP, va_K.moved hW.alike hK, hN.warm hW⟩, hS.F ht⟩) hS.2.2 d_Mod_ladder_81)
      · refine lv_iconst (v := 0) hx hb d_Mod_ladder_47 (by decide) ?_
        subst hy_5
        have hg : g_Mod_ladder x a1 a2 a3 a4 = (0, ((g_Mod_throwing x (if (f_Mod_in a1 0 ((q_m_windows x) - 1)) = 0 then 1 else 0 : Int32) (if (f_Mod_isPoint a2 a3 a4) = 0 then 1 else 0 : Int32) 0 0).2)) := by unfold g_Mod_ladder; rw [if_neg c_6]
        exact W.toX (W.iret (v := 0) hx hb hr (fun t ht hW => ⟨by rw [hg, pr_fst], ⟨by rw [ht, hg, pr_snd]; exact hP, va_K.moved hW.alike hK, hN.warm hW⟩, hS.F ht⟩) hS.2.2 d_Mod_ladder_48)
    refine lv_if_ne (tgt := 38) hx hb d_Mod_ladder_31 (by decide) (fun c_4 => ?_) (fun c_4 => ?_)
    · refine lv_iconst (v := 0) hx hb d_Mod_ladder_38 (by decide) ?_
      rw [show (if (f_Mod_isPoint a2 a3 a4) = 0 then 1 else 0 : Int32) = 0 from by rw [if_neg c_4]] at jn_3
      exact jn_3
    · refine lv_iconst (v := 1) hx hb d_Mod_ladder_34 (by decide) ?_
      refine lv_goto (tgt := 39) hx hb d_Mod_ladder_35 (by decide) ?_
      rw [show (if (f_Mod_isPoint a2 a3 a4) = 0 then 1 else 0 : Int32) = 1 from by rw [if_pos c_4]] at jn_3
      exact jn_3
  refine lv_if_ne (tgt := 18) hx hb d_Mod_ladder_11 (by decide) (fun c_2 => ?_) (fun c_2 => ?_)
  · refine lv_iconst (v := 0) hx hb d_Mod_ladder_18 (by decide) ?_
    rw [show (if (f_Mod_in a1 0 ((q_m_windows x) - 1)) = 0 then 1 else 0 : Int32) = 0 from by rw [if_neg c_2]] at jn_1
    exact jn_1
  · refine lv_iconst (v := 1) hx hb d_Mod_ladder_14 (by decide) ?_
    refine lv_goto (tgt := 19) hx hb d_Mod_ladder_15 (by decide) ?_
    rw [show (if (f_Mod_in a1 0 ((q_m_windows x) - 1)) = 0 then 1 else 0 : Int32) = 1 from by rw [if_pos c_2]] at jn_1
    exact jn_1
def Li_Mod_missing (a1 : Int32) (z : RT) : Nat → Int32 → Int32 → Int32 → Int32
  | 0, _, _, _ => 0
  | k + 1, op, i, ky => if (q_m_doors z) ≤ i then op else Li_Mod_missing a1 z k (if op = 0 then (if ((q_m_lock z) i.toNatClampNeg) = ky then 1 else 0) else 1 : Int32) (i + 1) ky
theorem Li_Mod_missing_s (a1 : Int32) (z : RT) (k : Nat) (op i ky : Int32) : Li_Mod_missing a1 z (k + 1) op i ky = if (q_m_doors z) ≤ i then op else Li_Mod_missing a1 z k (if op = 0 then (if ((q_m_lock z) i.toNatClampNeg) = ky then 1 else 0) else 1 : Int32) (i + 1) ky := rfl
def L_Mod_missing (a1 : Int32) : Nat → Int32 → Int32 → RT → Int32 × RT
  | 0, _, _, z => (0, z)
  | k + 1, lft, ky, z => if 30 < ky then ((-1), z) else (if (Li_Mod_missing a1 z 81 0 0 ky) = 0 then L_Mod_missing a1 k lft (ky + 1) z else (if ((q_m_hand z) ky.toNatClampNeg) = 0 then (if lft = 0 then (ky, z) else L_Mod_missing a1 k (lft + (-1)) (ky + 1) z) else L_Mod_missing a1 k lft (ky + 1) z))
theorem L_Mod_missing_s (a1 : Int32) (k : Nat) (lft : Int32) (ky : Int32) (z : RT) : L_Mod_missing a1 (k + 1) lft ky z = if 30 < ky then ((-1), z) else (if (Li_Mod_missing a1 z 81 0 0 ky) = 0 then L_Mod_missing a1 k lft (ky + 1) z else (if ((q_m_hand z) ky.toNatClampNeg) = 0 then (if lft = 0 then (ky, z) else L_Mod_missing a1 k (lft + (-1)) (ky + 1) z) else L_Mod_missing a1 k lft (ky + 1) z)) := rfl
def g_Mod_missing (x : RT) (a1 : Int32) : Int32 × RT := if ((g_Mod_throwing x (if 0 ≤ a1 then 0 else 1 : Int32) 0 0 0).1) = 0 then L_Mod_missing a1 31 a1 1 ((g_Mod_throwing x (if 0 ≤ a1 then 0 else 1 : Int32) 0 0 0).2) else (0, ((g_Mod_throwing x (if 0 ≤ a1 then 0 else 1 : Int32) 0 0 0).2))
set_option maxHeartbeats 400000 in
set_option maxRecDepth 100000 in
theorem u_Mod_missing (l : Launch) (dC : Nat → ClassId) (dI : Nat → Nat → Nat) (cI cZ : ClassId) (ad : Nat → Nat) (hj : aInj 21 ad) (x : RT) (hI : RIn x) (sz : Nat) (a1 : Int32) : MX l y_Mod_missing (Cond.code y_Mod_missing b_Mod_missing 6 (some .int) :: BW) { frames := 1, cells := 0, slots := 0, locals := 24 } (PCZ sz (dC, dI) [(cI, .int), (cZ, .boolean)] (wR cI cZ ad x) [.ref (ad 0), .int a1]) (UQ (some (.int (g_Mod_missing x a1).1)) (WB (dC, dI) [(cI, .int), (cZ, .boolean)] (wR cI cZ ad (g_Mod_missing x a1).2)) (aC 21 ad sz)) 0 0 (aC 21 ad sz) := by
  refine MX.ofW (cc := b_Mod_missing) (maxL := 6) (ret := (some .int)) (by decide) rfl ?_
  intro p e s m args below meth c s₁ B hml hex hv
  obtain ⟨hsz, rfl, hP, hK, hN⟩ := hv
  subst hsz
  have hx := B.exec
  have hb := B.bytes
  have hr := B.returns
  have hts := atoms_spec (ws := Cond.code y_Mod_missing b_Mod_missing 6 (some .int) :: BW) B.pre
  have hbw : ∀ w ∈ BW, w.before ([.ref (ad 0), .int a1]).toArray s = true := fun w h => hts w (List.mem_cons_of_mem _ h)
  have hown : s.vm.findClass "PlanRowsModel" = some m.cls := findClass_of_methodNamed B.named
  have hlocks := B.notSynchronized
  have hDx : ∀ z, va_D (aC 21 ad s.heap.size) (wR cI cZ ad z) := fun z => w_D hj (wR_ad cI cZ ad z) _
  have hA : ∀ H : Heap, s.heap.size ≤ H.size → ∀ q, aC 21 ad H.size q → aC 21 ad s.heap.size q := fun H h => aC_le h
  generalize aC 21 ad s.heap.size = A at hDx hA ⊢
  have hD := hDx x
  have hS : va_S A s.heap s.heap [] := va_S.rf
  have hI0 := hI
  have hl := lv_entry ([.ref (ad 0), .int a1]) (n := 6) (Nat.le_of_ble_eq_true rfl)
  rw [lg_entry_eq]
  generalize (lg_sl ([.ref (ad 0), .int a1]) ++ List.replicate (6 - (lg_sl ([.ref (ad 0), .int a1])).length) Slot.unset).toArray = ls at hl ⊢
  obtain ⟨H, hH⟩ : ∃ H, H = s.heap := ⟨_, rfl⟩
  obtain ⟨locs, hlocs⟩ : ∃ locs : List Loc, locs = [] := ⟨_, rfl⟩
  have hP : va_P (dC, dI) clsA (wR cI cZ ad x) H := by rw [hH]; exact hP
  have hS : va_S A s.heap H locs := by rw [hH, hlocs]; exact hS
  rw [← hlocs]
  have hW0 : ∀ (R : Room) (Q : State → Prop) (g : JFrame), W p l e R s m ([.ref (ad 0), .int a1]).toArray below meth c H locs 0 0 Q g → W p l e R s m ([.ref (ad 0), .int a1]).toArray below meth c s.heap locs 0 0 Q g := fun R Q g h => by rw [← hH]; exact h
  refine hW0 _ _ _ ?_
  have hl : lv_has ls 6 [(0, .ref (ad 0)), (1, .int a1)] := hl
  refine lv_aload_n hx hb d_Mod_missing_0 rfl (lv_at hl 0 rfl) ?_
  refine lv_iload_n hx hb d_Mod_missing_1 rfl (lv_at hl 1 rfl) ?_
  have jn_1 : W p l e { frames := 1, cells := 0, slots := 0, locals := 24 } s m ([.ref (ad 0), .int a1]).toArray below meth c H locs 0 0 (MQX below (UQ (some (.int (g_Mod_missing x a1).1)) (WB (dC, dI) [(cI, .int), (cZ, .boolean)] (wR cI cZ ad (g_Mod_missing x a1).2)) A) ([.ref (ad 0), .int a1]).toArray s 0 0 A) (F0 m 10 ls [.int (if 0 ≤ a1 then 0 else 1 : Int32), .ref (ad 0)]) := by
    refine lv_iconst (v := 0) hx hb d_Mod_missing_10 (by decide) ?_
    refine lv_iconst (v := 0) hx hb d_Mod_missing_11 (by decide) ?_
    refine lv_iconst (v := 0) hx hb d_Mod_missing_12 (by decide) ?_
    refine x_upd (x_runV (C := "PlanRowsModel") (b := (ad 0)) (As := [.int (if 0 ≤ a1 then 0 else 1 : Int32), .int 0, .int 0, .int 0]) (rest := []) ⟨hx, hb, hml, hown, hts⟩ (u_Mod_throwing l dC dI cI cZ ad hj x hI H.size (if 0 ≤ a1 then 0 else 1 : Int32) 0 0 0) (cw_Mod_88 hts rfl rfl ⟨Nat.le_of_ble_eq_true rfl, Nat.le_of_ble_eq_true rfl⟩) ⟨PCZ.blind, va_recv hK hP (ci := 9) (q0 := 0) rfl rfl, PCZ.at hK hN hP⟩ rfl rfl hl.1 rfl (lv_room (Nat.le_of_ble_eq_true rfl)) d_Mod_missing_13 ⟨Nat.zero_le _, Nat.zero_le _⟩) hS (fun q _ h => hA H hS.1 q h) (fun q h => hA H hS.1 q h) (fun t H1 locs ht hW hB hz1 hk1 hS => ?_)
    obtain ⟨hP, -, -⟩ := hB
    rw [ht] at hP
    generalize H1 = H at hP hS ⊢
    obtain ⟨y_3, hy_3⟩ : ∃ z, z = (g_Mod_throwing x (if 0 ≤ a1 then 0 else 1 : Int32) 0 0 0).2 := ⟨_, rfl⟩
    rw [← hy_3] at hP
    have hty_3 : thr x y_3 := by rw [hy_3]; exact thr_throwing x (if 0 ≤ a1 then 0 else 1 : Int32) 0 0 0
    have hI : RIn y_3 := ri_thr hty_3 hI0
    have hD : va_D A (wR cI cZ ad y_3) := hDx _
    refine lv_if_eq (tgt := 21) hx hb d_Mod_missing_16 (by decide) (fun c_4 => ?_) (fun c_4 => ?_)
    · refine lv_iload_n hx hb d_Mod_missing_21 rfl (lv_at hl 1 rfl) ?_
      refine lv_istore_n (lv' := [(2, .int a1), (0, .ref (ad 0)), (1, .int a1)]) hx hb d_Mod_missing_22 rfl hl (by decide) rfl (fun ls hl => ?_)
      refine lv_iconst (v := 1) hx hb d_Mod_missing_23 (by decide) ?_
      refine lv_istore_n (lv' := [(3, .int 1), (2, .int a1), (0, .ref (ad 0)), (1, .int a1)]) hx hb d_Mod_missing_24 rfl hl (by decide) rfl (fun ls hl => ?_)
      have loop : ∀ (k : Nat) (lft : Int32) (ky : Int32) (z : RT) (ls : Array Slot) (H : Heap) (locs : List Loc), 0 ≤ ky.toInt ∧ ky.toInt ≤ 31 ∧ 31 - ky.toInt < ((k : Nat) : Int) → thr x z → g_Mod_missing x a1 = L_Mod_missing a1 k lft ky z → va_P (dC, dI) clsA (wR cI cZ ad z) H → va_S A s.heap H locs → lv_has ls 6 [(3, .int ky), (2, .int lft), (0, .ref (ad 0)), (1, .int a1)] → W p l e { frames := 1, cells := 0, slots := 0, locals := 24 } s m ([.ref (ad 0), .int a1]).toArray below meth c H locs 0 0 (MQX below (UQ (some (.int (g_Mod_missing x a1).1)) (WB (dC, dI) [(cI, .int), (cZ, .boolean)] (wR cI cZ ad (g_Mod_missing x a1).2)) A) ([.ref (ad 0), .int a1]).toArray s 0 0 A) (F0 m 25 ls []) := by
        intro k
        induction k with
        | zero =>
          intro lft ky z ls H locs hi hz hq hP hS hl
          obtain ⟨h1, h2, h3⟩ := hi
          omega
        | succ k ih =>
          intro lft ky z ls H locs hi hz hq hP hS hl
          have hq := hq.trans (L_Mod_missing_s a1 k lft ky z)
          have hI := (ri_thr hz hI0)
          have hD := hDx z
          refine lv_iload_n hx hb d_Mod_missing_25 rfl (lv_at hl 0 rfl) ?_
          refine lv_bipush (v := 30) hx hb d_Mod_missing_26 (by decide) ?_
          refine lv_icmp_gt (tgt := 104) hx hb d_Mod_missing_28 (by decide) (fun c_5 => ?_) (fun c_5 => ?_)
          · refine lv_iconst (v := (-1)) hx hb d_Mod_missing_104 (by decide) ?_
            have hg : g_Mod_missing x a1 = ((-1), z) := by rw [hq, if_pos c_5]
            exact W.toX (W.iret (v := (-1)) hx hb hr (fun t ht hW => ⟨by rw [hg, pr_fst], ⟨by rw [ht, hg, pr_snd]; exact hP, va_K.moved hW.alike hK, hN.warm hW⟩, hS.F ht⟩) hS.2.2 d_Mod_missing_105)
          · refine lv_iconst (v := 0) hx hb d_Mod_missing_31 (by decide) ?_
            refine lv_istore (lv' := [(4, .int 0), (3, .int ky), (2, .int lft), (0, .ref (ad 0)), (1, .int a1)]) hx hb d_Mod_missing_32 hl (by decide) rfl (fun ls hl => ?_)
            refine lv_iconst (v := 0) hx hb d_Mod_missing_34 (by decide) ?_
            refine lv_istore (lv' := [(5, .int 0), (4, .int 0), (3, .int ky), (2, .int lft), (0, .ref (ad 0)), (1, .int a1)]) hx hb d_Mod_missing_35 hl (by decide) rfl (fun ls hl => ?_)
            have lp_6 : ∀ (k : Nat) (op i ky : Int32) (ls : Array Slot), 0 ≤ i.toInt ∧ i.toInt ≤ (q_m_doors z).toInt ∧ (q_m_doors z).toInt - i.toInt < ((k : Nat) : Int) → lv_has ls 6 [(5, .int i), (4, .int op), (3, .int ky), (2, .int lft), (0, .ref (ad 0)), (1, .int a1)] → (∀ ls : Array Slot, lv_has ls 6 [(4, .int (Li_Mod_missing a1 z k op i ky)), (3, .int ky), (2, .int lft), (0, .ref (ad 0)), (1, .int a1)] → W p l e { frames := 1, cells := 0, slots := 0, locals := 24 } s m ([.ref (ad 0), .int a1]).toArray below meth c H locs 0 0 (MQX below (UQ (some (.int (g_Mod_missing x a1).1)) (WB (dC, dI) [(cI, .int), (cZ, .boolean)] (wR cI cZ ad (g_Mod_missing x a1).2)) A) ([.ref (ad 0), .int a1]).toArray s 0 0 A) (F0 m 75 ls [])) → W p l e { frames := 1, cells := 0, slots := 0, locals := 24 } s m ([.ref (ad 0), .int a1]).toArray below meth c H locs 0 0 (MQX below (UQ (some (.int (g_Mod_missing x a1).1)) (WB (dC, dI) [(cI, .int), (cZ, .boolean)] (wR cI cZ ad (g_Mod_missing x a1).2)) A) ([.ref (ad 0), .int a1]).toArray s 0 0 A) (F0 m 37 ls []) := by
              intro k
              induction k with
              | zero =>
                intro op i ky ls hi hl hKK
                obtain ⟨h1, h2, h3⟩ := hi
                omega
              | succ k ih =>
                intro op i ky ls hi hl hKK
                refine lv_iload hx hb d_Mod_missing_37 (lv_at hl 0 rfl) ?_
                refine lv_aload_n hx hb d_Mod_missing_39 rfl (lv_at hl 4 rfl) ?_
                refine va_get (D := (dC, dI)) (ci := 9) (v := .int (q_m_doors z)) (C := R_Mod) (T := F_Mod) (N := 31) hx hb hbw in_Mod hown hK hP 0 rfl rfl 5 (by decide) (hbw _ w_714) (fun _ h9 => h9) rfl d_Mod_missing_40 ?_
                refine lv_icmp_ge (tgt := 75) hx hb d_Mod_missing_43 (by decide) (fun c_7 => ?_) (fun c_7 => ?_)
                · have hq9 : Li_Mod_missing a1 z (k + 1) op i ky = op := by rw [Li_Mod_missing_s, if_pos c_7]
                  rw [hq9] at hKK
                  exact hKK ls (lv_sub hl [1, 2, 3, 4, 5] rfl)
                · refine lv_iload hx hb d_Mod_missing_46 (lv_at hl 1 rfl) ?_
                  have jn_8 : W p l e { frames := 1, cells := 0, slots := 0, locals := 24 } s m ([.ref (ad 0), .int a1]).toArray below meth c H locs 0 0 (MQX below (UQ (some (.int (g_Mod_missing x a1).1)) (WB (dC, dI) [(cI, .int), (cZ, .boolean)] (wR cI cZ ad (g_Mod_missing x a1).2)) A) ([.ref (ad 0), .int a1]).toArray s 0 0 A) (F0 m 67 ls [.int (if op = 0 then (if ((q_m_lock z) i.toNatClampNeg) = ky then 1 else 0) else 1 : Int32)]) := by
                    refine lv_istore (lv' := [(4, .int (if op = 0 then (if ((q_m_lock z) i.toNatClampNeg) = ky then 1 else 0) else 1 : Int32)), (5, .int i), (3, .int ky), (2, .int lft), (0, .ref (ad 0)), (1, .int a1)]) hx hb d_Mod_missing_67 hl (by decide) rfl (fun ls hl => ?_)
                    refine lv_iinc (v := i + 1) (lv' := [(5, .int (i + 1)), (4, .int (if op = 0 then (if ((q_m_lock z) i.toNatClampNeg) = ky then 1 else 0) else 1 : Int32)), (3, .int ky), (2, .int lft), (0, .ref (ad 0)), (1, .int a1)]) hx hb d_Mod_missing_69 hl (k := 1) rfl rfl (by decide) rfl (fun ls hl => ?_)
                    refine lv_goto (tgt := 37) hx hb d_Mod_missing_72 (by decide) ?_
                    have hq9 : Li_Mod_missing a1 z (k + 1) op i ky = Li_Mod_missing a1 z k (if op = 0 then (if ((q_m_lock z) i.toNatClampNeg) = ky then 1 else 0) else 1 : Int32) (i + 1) ky := by rw [Li_Mod_missing_s, if_neg c_7]
                    rw [hq9] at hKK
                    exact ih (if op = 0 then (if ((q_m_lock z) i.toNatClampNeg) = ky then 1 else 0) else 1 : Int32) (i + 1) ky ls (lp_inc hi c_7 hI.2.1.2 (by decide)) (lv_sub hl [0, 1, 2, 3, 4, 5] rfl) hKK
                  refine lv_if_ne (tgt := 62) hx hb d_Mod_missing_48 (by decide) (fun c_9 => ?_) (fun c_9 => ?_)
                  · refine lv_iconst (v := 1) hx hb d_Mod_missing_62 (by decide) ?_
                    refine lv_goto (tgt := 67) hx hb d_Mod_missing_63 (by decide) ?_
                    rw [show (if op = 0 then (if ((q_m_lock z) i.toNatClampNeg) = ky then 1 else 0) else 1 : Int32) = 1 from by rw [if_neg c_9]] at jn_8
                    exact jn_8
                  · refine lv_aload_n hx hb d_Mod_missing_51 rfl (lv_at hl 4 rfl) ?_
                    refine va_get (D := (dC, dI)) (ci := 9) (v := .ref (ad 7)) (C := R_Mod) (T := F_Mod) (N := 31) hx hb hbw in_Mod hown hK hP 0 rfl rfl 9 (by decide) (hbw _ w_718) (fun _ h9 => h9) rfl d_Mod_missing_52 ?_
                    refine lv_iload hx hb d_Mod_missing_55 (lv_at hl 0 rfl) ?_
                    refine va_iald hx hb hK hP 7 0 rfl rfl (ix_ge hi c_7 hI.2.1.2) d_Mod_missing_57 ?_
                    refine lv_iload_n hx hb d_Mod_missing_58 rfl (lv_at hl 2 rfl) ?_
                    refine lv_icmp_ne (tgt := 66) hx hb d_Mod_missing_59 (by decide) (fun c_10 => ?_) (fun c_10 => ?_)
                    · refine lv_iconst (v := 0) hx hb d_Mod_missing_66 (by decide) ?_
                      rw [show (if op = 0 then (if ((q_m_lock z) i.toNatClampNeg) = ky then 1 else 0) else 1 : Int32) = 0 from by rw [if_pos c_9, if_neg c_10]] at jn_8
                      exact jn_8
                    · refine lv_iconst (v := 1) hx hb d_Mod_missing_62 (by decide) ?_
                      refine lv_goto (tgt := 67) hx hb d_Mod_missing_63 (by decide) ?_
                      rw [show (if op = 0 then (if ((q_m_lock z) i.toNatClampNeg) = ky then 1 else 0) else 1 : Int32) = 1 from by rw [if_pos c_9, if_pos c_10]] at jn_8
                      exact jn_8
            refine lp_6 81 0 0 ky ls (lp_0 (N := 80) hI.2.1 (by decide)) (lv_sub hl [0, 1, 2, 3, 4, 5] rfl) (fun ls hl => ?_)
            refine lv_iload hx hb d_Mod_missing_75 (lv_at hl 0 rfl) ?_
            refine lv_if_eq (tgt := 98) hx hb d_Mod_missing_77 (by decide) (fun c_11 => ?_) (fun c_11 => ?_)
            · refine lv_iinc (v := ky + 1) (lv' := [(3, .int (ky + 1)), (4, .int (Li_Mod_missing a1 z 81 0 0 ky)), (2, .int lft), (0, .ref (ad 0)), (1, .int a1)]) hx hb d_Mod_missing_98 hl (k := 1) rfl rfl (by decide) rfl (fun ls hl => ?_)
              refine lv_goto (tgt := 25) hx hb d_Mod_missing_101 (by decide) ?_
              exact ih lft (ky + 1) z ls H locs (lp_inc31 hi c_5) hz (by rw [hq, if_neg c_5, if_pos c_11]) hP hS (lv_sub hl [0, 2, 3, 4] rfl)
            · refine lv_aload_n hx hb d_Mod_missing_80 rfl (lv_at hl 3 rfl) ?_
              refine va_get (D := (dC, dI)) (ci := 9) (v := .ref (ad 8)) (C := R_Mod) (T := F_Mod) (N := 31) hx hb hbw in_Mod hown hK hP 0 rfl rfl 10 (by decide) (hbw _ w_719) (fun _ h9 => h9) rfl d_Mod_missing_81 ?_
              refine lv_iload_n hx hb d_Mod_missing_84 rfl (lv_at hl 1 rfl) ?_
              refine va_zald hx hb hK hP 8 1 rfl rfl (ix_31 hi c_5) d_Mod_missing_85 ?_
              refine lv_if_ne (tgt := 98) hx hb d_Mod_missing_86 (by decide) (fun c_12 => ?_) (fun c_12 => ?_)
              · refine lv_iinc (v := ky + 1) (lv' := [(3, .int (ky + 1)), (4, .int (Li_Mod_missing a1 z 81 0 0 ky)), (2, .int lft), (0, .ref (ad 0)), (1, .int a1)]) hx hb d_Mod_missing_98 hl (k := 1) rfl rfl (by decide) rfl (fun ls hl => ?_)
                refine lv_goto (tgt := 25) hx hb d_Mod_missing_101 (by decide) ?_
                exact ih lft (ky + 1) z ls H locs (lp_inc31 hi c_5) hz (by rw [hq, if_neg c_5, if_neg c_11, if_neg c_12]) hP hS (lv_sub hl [0, 2, 3, 4] rfl)
              · refine lv_iload_n hx hb d_Mod_missing_89 rfl (lv_at hl 2 rfl) ?_
                refine lv_if_ne (tgt := 95) hx hb d_Mod_missing_90 (by decide) (fun c_13 => ?_) (fun c_13 => ?_)
                · refine lv_iinc (v := lft + (-1)) (lv' := [(2, .int (lft + (-1))), (4, .int (Li_Mod_missing a1 z 81 0 0 ky)), (3, .int ky), (0, .ref (ad 0)), (1, .int a1)]) hx hb d_Mod_missing_95 hl (k := 2) rfl rfl (by decide) rfl (fun ls hl => ?_)
                  refine lv_iinc (v := ky + 1) (lv' := [(3, .int (ky + 1)), (2, .int (lft + (-1))), (4, .int (Li_Mod_missing a1 z 81 0 0 ky)), (0, .ref (ad 0)), (1, .int a1)]) hx hb d_Mod_missing_98 hl (k := 2) rfl rfl (by decide) rfl (fun ls hl => ?_)
                  refine lv_goto (tgt := 25) hx hb d_Mod_missing_101 (by decide) ?_
                  exact ih (lft + (-1)) (ky + 1) z ls H locs (lp_inc31 hi c_5) hz (by rw [hq, if_neg c_5, if_neg c_11, if_pos c_12, if_neg c_13]) hP hS (lv_sub hl [0, 1, 3, 4] rfl)
                · refine lv_iload_n hx hb d_Mod_missing_93 rfl (lv_at hl 1 rfl) ?_
                  have hg : g_Mod_missing x a1 = (ky, z) := by rw [hq, if_neg c_5, if_neg c_11, if_pos c_12, if_pos c_13]
                  exact W.toX (W.iret (v := ky) hx hb hr (fun t ht hW => ⟨by rw [hg, pr_fst], ⟨by rw [ht, hg, pr_snd]; exact hP, va_K.moved hW.alike hK, hN.warm hW⟩, hS.F ht⟩) hS.2.2 d_Mod_missing_94)
      exact loop 31 a1 1 y_3 ls H locs (by decide) (show thr x y_3 from hty_3) (by subst hy_3; unfold g_Mod_missing; rw [if_pos c_4]) hP hS (lv_sub hl [0, 1, 2, 3] rfl)
    · refine lv_iconst (v := 0) hx hb d_Mod_missing_19 (by decide) ?_
      subst hy_3
      have hg : g_Mod_missing x a1 = (0, ((g_Mod_throwing x (if 0 ≤ a1 then 0 else 1 : Int32) 0 0 0).2)) := by unfold g_Mod_missing; rw [if_neg c_4]
      exact W.toX (W.iret (v := 0) hx hb hr (fun t ht hW => ⟨by rw [hg, pr_fst], ⟨by rw [ht, hg, pr_snd]; exact hP, va_K.moved hW.alike hK, hN.warm hW⟩, hS.F ht⟩) hS.2.2 d_Mod_missing_20)
  refine lv_if_ge (tgt := 9) hx hb d_Mod_missing_2 (by decide) (fun c_2 => ?_) (fun c_2 => ?_)
  · refine lv_iconst (v := 0) hx hb d_Mod_missing_9 (by decide) ?_
    rw [show (if 0 ≤ a1 then 0 else 1 : Int32) = 0 from by rw [if_pos c_2]] at jn_1
    exact jn_1
  · refine lv_iconst (v := 1) hx hb d_Mod_missing_5 (by decide) ?_
    refine lv_goto (tgt := 10) hx hb d_Mod_missing_6 (by decide) ?_
    rw [show (if 0 ≤ a1 then 0 else 1 : Int32) = 1 from by rw [if_neg c_2]] at jn_1
    exact jn_1
