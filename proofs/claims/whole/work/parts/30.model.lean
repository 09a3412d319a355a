theorem nz_in {a : Int32} (h : ¬ f_Mod_in a 1 100 = 0) : ¬ a = 0 := by
  intro e
  rw [e] at h
  exact h (by decide)
/-- z is x but for what was thrown and the row of least costs -/
def tl (x z : RT) : Prop := ∃ v f, z = s_m_least (s_m_thrown x v) f
theorem tl_thr {x z : RT} (h : thr x z) : tl x z := by
  obtain ⟨v, rfl⟩ := h
  exact ⟨v, q_m_least x, rfl⟩
theorem tl_ls {x y z : RT} (h : tl x y) (h2 : ls0 y z) : tl x z := by
  obtain ⟨v, f, rfl⟩ := h
  obtain ⟨g, rfl⟩ := h2
  exact ⟨v, g, rfl⟩
theorem tl_in {x z : RT} (h : tl x z) (hI : RIn x) : RIn z := by
  obtain ⟨v, f, rfl⟩ := h
  exact hI
theorem tl_M {x z : RT} (h : tl x z) (hM : RM x) : RM z := by
  obtain ⟨v, f, rfl⟩ := h
  exact hM
theorem tl_rooms {x z : RT} (h : tl x z) : q_m_rooms z = q_m_rooms x := by
  obtain ⟨v, f, rfl⟩ := h
  rfl
theorem tl_ix {x z : RT} {i : Int32} {k : Nat} (hz : tl x z) (hI : RIn x) (hi : 0 ≤ i.toInt ∧ i.toInt ≤ (q_m_rooms x).toInt ∧ (q_m_rooms x).toInt - i.toInt < ((k + 1 : Nat) : Int)) (hc : ¬ q_m_rooms z ≤ i) : vp_in i 40 := by
  rw [tl_rooms hz] at hc
  exact ix_ge hi hc hI.1.2
theorem tl_inc {x z : RT} {i : Int32} {k : Nat} (hz : tl x z) (hI : RIn x) (hi : 0 ≤ i.toInt ∧ i.toInt ≤ (q_m_rooms x).toInt ∧ (q_m_rooms x).toInt - i.toInt < ((k + 1 : Nat) : Int)) (hc : ¬ q_m_rooms z ≤ i) : 0 ≤ (i + 1).toInt ∧ (i + 1).toInt ≤ (q_m_rooms x).toInt ∧ (q_m_rooms x).toInt - (i + 1).toInt < (k : Int) := by
  rw [tl_rooms hz] at hc
  exact lp_inc hi hc hI.1.2 (by decide)
/-- how the way's loop begins -/
theorem wv_0 {y Y : RT} {e : Int32} (hI : RIn y) (hY : q_m_least Y = q_m_least y ∧ q_m_rooms Y = q_m_rooms y ∧ q_m_end Y = e ∧ q_m_steps Y = 0) (he : 0 ≤ e.toInt ∧ e.toInt < (q_m_rooms y).toInt ∧ (q_m_least y e.toNatClampNeg).toInt < 100000000) : wvI Y (q_m_end Y) Y 40 := by
  obtain ⟨k1, k2, k3, k4⟩ := hY
  have h1 := cl_nn he.1
  have h2 := hI.1
  have h3 := wcn_top (x := Y) (u := e) (by omega)
  unfold wvI
  rw [k3, k4, k2, k1, show (0 : Int32).toInt = 0 from rfl]
  refine ⟨he.1, he.2.1, he.2.2, by omega, by omega, by omega⟩
theorem pr_stairs {y : RT} {v r : Int32} (h : prR y r) : prR (s_m_stairs y v) r := h
theorem pr_steps {y : RT} {v r : Int32} (h : prR y r) : prR (s_m_steps y v) r := h
theorem pr_end {y : RT} {v r : Int32} (h : prR y r) : prR (s_m_end y v) r := h
theorem ri_stairs {y : RT} {v : Int32} (h : RIn y) : RIn (s_m_stairs y v) := h
theorem ri_end {y : RT} {v : Int32} (h : RIn y) : RIn (s_m_end y v) := h
theorem ri_steps {y : RT} (hI : RIn y) : RIn (s_m_steps y 0) := ⟨hI.1, hI.2.1, hI.2.2.1, hI.2.2.2.1, hI.2.2.2.2.1, ⟨(by decide : 0 ≤ (0 : Int32).toInt), (by decide : (0 : Int32).toInt ≤ 40)⟩, hI.2.2.2.2.2.2⟩
theorem rm_stairs {y : RT} {v : Int32} (h : RM y) : RM (s_m_stairs y v) := h
theorem rm_end {y : RT} {v : Int32} (h : RM y) : RM (s_m_end y v) := h
theorem rm_steps {y : RT} {v : Int32} (h : RM y) : RM (s_m_steps y v) := h
theorem qv_end (y : RT) (v : Int32) : q_m_least (s_m_end y v) = q_m_least y ∧ q_m_rooms (s_m_end y v) = q_m_rooms y ∧ q_m_end (s_m_end y v) = v := ⟨rfl, rfl, rfl⟩
theorem qv_steps (y : RT) (v : Int32) : q_m_least (s_m_steps y v) = q_m_least y ∧ q_m_rooms (s_m_steps y v) = q_m_rooms y ∧ q_m_end (s_m_steps y v) = q_m_end y ∧ q_m_steps (s_m_steps y v) = v := ⟨rfl, rfl, rfl, rfl⟩
theorem qv_stairs (y : RT) (v : Int32) : q_m_least (s_m_stairs y v) = q_m_least y ∧ q_m_rooms (s_m_stairs y v) = q_m_rooms y ∧ q_m_end (s_m_stairs y v) = q_m_end y ∧ q_m_steps (s_m_stairs y v) = q_m_steps y := ⟨rfl, rfl, rfl, rfl⟩
noncomputable def g_Mod_hoses (x : RT) (a1 a2 : Int32) : Int32 × RT := if ((g_Mod_throwing x (if (f_Mod_isRoom x a1) = 0 then 1 else 0 : Int32) (if (f_Mod_in a2 1 100) = 0 then 1 else 0 : Int32) 0 0).1) = 0 then (if 0 ≤ (f_Mod_nearest ((g_Mod_reckon ((g_Mod_throwing x (if (f_Mod_isRoom x a1) = 0 then 1 else 0 : Int32) (if (f_Mod_in a2 1 100) = 0 then 1 else 0 : Int32) 0 0).2) a1 0).2) 1) then ((((((q_m_least ((g_Mod_reckon ((g_Mod_throwing x (if (f_Mod_isRoom x a1) = 0 then 1 else 0 : Int32) (if (f_Mod_in a2 1 100) = 0 then 1 else 0 : Int32) 0 0).2) a1 0).2)) (f_Mod_nearest ((g_Mod_reckon ((g_Mod_throwing x (if (f_Mod_isRoom x a1) = 0 then 1 else 0 : Int32) (if (f_Mod_in a2 1 100) = 0 then 1 else 0 : Int32) 0 0).2) a1 0).2) 1).toNatClampNeg) / 100) + a2) - 1) / a2, ((g_Mod_reckon ((g_Mod_throwing x (if (f_Mod_isRoom x a1) = 0 then 1 else 0 : Int32) (if (f_Mod_in a2 1 100) = 0 then 1 else 0 : Int32) 0 0).2) a1 0).2)) else ((-1), ((g_Mod_reckon ((g_Mod_throwing x (if (f_Mod_isRoom x a1) = 0 then 1 else 0 : Int32) (if (f_Mod_in a2 1 100) = 0 then 1 else 0 : Int32) 0 0).2) a1 0).2))) else (0, ((g_Mod_throwing x (if (f_Mod_isRoom x a1) = 0 then 1 else 0 : Int32) (if (f_Mod_in a2 1 100) = 0 then 1 else 0 : Int32) 0 0).2))
set_option maxHeartbeats 400000 in
set_option maxRecDepth 100000 in
theorem u_Mod_hoses (l : Launch) (dC : Nat → ClassId) (dI : Nat → Nat → Nat) (cI cZ : ClassId) (ad : Nat → Nat) (hj : aInj 21 ad) (x : RT) (hI : RIn x) (sz : Nat) (a1 a2 : Int32) (hM : RM x) : MX l y_Mod_hoses (Cond.code y_Mod_hoses b_Mod_hoses 4 (some .int) :: BW) { frames := 2, cells := 0, slots := 0, locals := 48 } (PCZ sz (dC, dI) [(cI, .int), (cZ, .boolean)] (wR cI cZ ad x) [.ref (ad 0), .int a1, .int a2]) (UQ (some (.int (g_Mod_hoses x a1 a2).1)) (WB (dC, dI) [(cI, .int), (cZ, .boolean)] (wR cI cZ ad (g_Mod_hoses x a1 a2).2)) (aC 21 ad sz)) 0 0 (aC 21 ad sz) := by
  refine MX.ofW (cc := b_Mod_hoses) (maxL := 4) (ret := (some .int)) (by decide) rfl ?_
  intro p e s m args below meth c s₁ B hml hex hv
  obtain ⟨hsz, rfl, hP, hK, hN⟩ := hv
  subst hsz
  have hx := B.exec
  have hb := B.bytes
  have hr := B.returns
  have hts := atoms_spec (ws := Cond.code y_Mod_hoses b_Mod_hoses 4 (some .int) :: BW) B.pre
  have hbw : ∀ w ∈ BW, w.before ([.ref (ad 0), .int a1, .int a2]).toArray s = true := fun w h => hts w (List.mem_cons_of_mem _ h)
  have hown : s.vm.findClass "PlanRowsModel" = some m.cls := findClass_of_methodNamed B.named
  have hlocks := B.notSynchronized
  have hDx : ∀ z, va_D (aC 21 ad s.heap.size) (wR cI cZ ad z) := fun z => w_D hj (wR_ad cI cZ ad z) _
  have hA : ∀ H : Heap, s.heap.size ≤ H.size → ∀ q, aC 21 ad H.size q → aC 21 ad s.heap.size q := fun H h => aC_le h
  generalize aC 21 ad s.heap.size = A at hDx hA ⊢
  have hD := hDx x
  have hS : va_S A s.heap s.heap [] := va_S.rf
  have hI0 := hI
  have hl := lv_entry ([.ref (ad 0), .int a1, .int a2]) (n := 4) (Nat.le_of_ble_eq_true rfl)
  rw [lg_entry_eq]
  generalize (lg_sl ([.ref (ad 0), .int a1, .int a2]) ++ List.replicate (4 - (lg_sl ([.ref (ad 0), .int a1, .int a2])).length) Slot.unset).toArray = ls at hl ⊢
  obtain ⟨H, hH⟩ : ∃ H, H = s.heap := ⟨_, rfl⟩
  obtain ⟨locs, hlocs⟩ : ∃ locs : List Loc, locs = [] := ⟨_, rfl⟩
  have hP : va_P (dC, dI) clsA (wR cI cZ ad x) H := by rw [hH]; exact hP
  have hS : va_S A s.heap H locs := by rw [hH, hlocs]; exact hS
  rw [← hlocs]
  have hW0 : ∀ (R : Room) (Q : State → Prop) (g : JFrame), W p l e R s m ([.ref (ad 0), .int a1, .int a2]).toArray below meth c H locs 0 0 Q g → W p l e R s m ([.ref (ad 0), .int a1, .int a2]).toArray below meth c s.heap locs 0 0 Q g := fun R Q g h => by rw [← hH]; exact h
  refine hW0 _ _ _ ?_
  have hl : lv_has ls 4 [(0, .ref (ad 0)), (1, .int a1), (2, .int a2)] := hl
  refine lv_aload_n hx hb d_Mod_hoses_0 rfl (lv_at hl 0 rfl) ?_
  refine lv_aload_n hx hb d_Mod_hoses_1 rfl (lv_at hl 0 rfl) ?_
  refine lv_iload_n hx hb d_Mod_hoses_2 rfl (lv_at hl 1 rfl) ?_
  refine xv (As := [.int a1]) (rest := [.ref (ad 0)]) (C := "PlanRowsModel") ⟨hx, hb, hml, hown, hts⟩ (c_Mod_isRoom l dC dI cI cZ ad x hI a1) (cw_Mod_92 hts rfl rfl ⟨Nat.le_of_ble_eq_true rfl, Nat.le_of_ble_eq_true rfl⟩) hK hN hP 0 rfl rfl rfl rfl hl.1 rfl (Nat.le_of_ble_eq_true rfl) d_Mod_hoses_3 ⟨Nat.zero_le _, Nat.zero_le _⟩ ?_
  have jn_1 : W p l e { frames := 2, cells := 0, slots := 0, locals := 48 } s m ([.ref (ad 0), .int a1, .int a2]).toArray below meth c H locs 0 0 (MQX below (UQ (some (.int (g_Mod_hoses x a1 a2).1)) (WB (dC, dI) [(cI, .int), (cZ, .boolean)] (wR cI cZ ad (g_Mod_hoses x a1 a2).2)) A) ([.ref (ad 0), .int a1, .int a2]).toArray s 0 0 A) (F0 m 14 ls [.int (if (f_Mod_isRoom x a1) = 0 then 1 else 0 : Int32), .ref (ad 0)]) := by
    refine lv_iload_n hx hb d_Mod_hoses_14 rfl (lv_at hl 2 rfl) ?_
    refine lv_iconst (v := 1) hx hb d_Mod_hoses_15 (by decide) ?_
    refine lv_bipush (v := 100) hx hb d_Mod_hoses_16 (by decide) ?_
    refine xs (As := [.int a2, .int 1, .int 100]) (rest := [.int (if (f_Mod_isRoom x a1) = 0 then 1 else 0 : Int32), .ref (ad 0)]) ⟨hx, hb, hml, hown, hts⟩ (c_Mod_in l dC dI _ _ a2 1 100) (cw_Mod_84 hts rfl rfl ⟨Nat.le_of_ble_eq_true rfl, Nat.le_of_ble_eq_true rfl⟩) hK hN hP rfl hl.1 rfl (Nat.le_of_ble_eq_true rfl) d_Mod_hoses_18 ⟨Nat.zero_le _, Nat.zero_le _⟩ ?_
    have jn_3 : W p l e { frames := 2, cells := 0, slots := 0, locals := 48 } s m ([.ref (ad 0), .int a1, .int a2]).toArray below meth c H locs 0 0 (MQX below (UQ (some (.int (g_Mod_hoses x a1 a2).1)) (WB (dC, dI) [(cI, .int), (cZ, .boolean)] (wR cI cZ ad (g_Mod_hoses x a1 a2).2)) A) ([.ref (ad 0), .int a1, .int a2]).toArray s 0 0 A) (F0 m 29 ls [.int (if (f_Mod_in a2 1 100) = 0 then 1 else 0 : Int32), .int (if (f_Mod_isRoom x a1) = 0 then 1 else 0 : Int32), .ref (ad 0)]) := by
      refine lv_iconst (v := 0) hx hb d_Mod_hoses_29 (by decide) ?_
      refine lv_iconst (v := 0) hx hb d_Mod_hoses_30 (by decide) ?_
      refine x_upd (x_runV (C := "PlanRowsModel") (b := (ad 0)) (As := [.int (if (f_Mod_isRoom x a1) = 0 then 1 else 0 : Int32), .int (if (f_Mod_in a2 1 100) = 0 then 1 else 0 : Int32), .int 0, .int 0]) (rest := []) ⟨hx, hb, hml, hown, hts⟩ (u_Mod_throwing l dC dI cI cZ ad hj x hI H.size (if (f_Mod_isRoom x a1) = 0 then 1 else 0 : Int32) (if (f_Mod_in a2 1 100) = 0 then 1 else 0 : Int32) 0 0) (cw_Mod_88 hts rfl rfl ⟨Nat.le_of_ble_eq_true rfl, Nat.le_of_ble_eq_true rfl⟩) ⟨PCZ.blind, va_recv hK hP (ci := 9) (q0 := 0) rfl rfl, PCZ.at hK hN hP⟩ rfl rfl hl.1 rfl (lv_room (Nat.le_of_ble_eq_true rfl)) d_Mod_hoses_31 ⟨Nat.zero_le _, Nat.zero_le _⟩) hS (fun q _ h => hA H hS.1 q h) (fun q h => hA H hS.1 q h) (fun t H1 locs ht hW hB hz1 hk1 hS => ?_)
      obtain ⟨hP, -, -⟩ := hB
      rw [ht] at hP
      generalize H1 = H at hP hS ⊢
      obtain ⟨y_5, hy_5⟩ : ∃ zz, zz = (g_Mod_throwing x (if (f_Mod_isRoom x a1) = 0 then 1 else 0 : Int32) (if (f_Mod_in a2 1 100) = 0 then 1 else 0 : Int32) 0 0).2 := ⟨_, rfl⟩
      rw [← hy_5] at hP
      have hty_5 : thr x y_5 := by rw [hy_5]; exact thr_throwing x (if (f_Mod_isRoom x a1) = 0 then 1 else 0 : Int32) (if (f_Mod_in a2 1 100) = 0 then 1 else 0 : Int32) 0 0
      have hI : RIn y_5 := ri_thr hty_5 hI0
      have hD : va_D A (wR cI cZ ad y_5) := hDx _
      refine lv_if_eq (tgt := 39) hx hb d_Mod_hoses_34 (by decide) (fun c_6 => ?_) (fun c_6 => ?_)
      · refine lv_aload_n hx hb d_Mod_hoses_39 rfl (lv_at hl 0 rfl) ?_
        refine lv_iload_n hx hb d_Mod_hoses_40 rfl (lv_at hl 1 rfl) ?_
        refine lv_iconst (v := 0) hx hb d_Mod_hoses_41 (by decide) ?_
        refine x_upd (x_runV (C := "PlanRowsModel") (b := (ad 0)) (As := [.int a1, .int 0]) (rest := []) ⟨hx, hb, hml, hown, hts⟩ (u_Mod_reckon l dC dI cI cZ ad hj y_5 hI H.size a1 0 (ix_isRoom (if01 (th0 c_6).1) hI0) (thr_M hty_5 hM)) (cw_Mod_107 hts rfl rfl ⟨Nat.le_of_ble_eq_true rfl, Nat.le_of_ble_eq_true rfl⟩) ⟨PCZ.blind, va_recv hK hP (ci := 9) (q0 := 0) rfl rfl, PCZ.at hK hN hP⟩ rfl rfl hl.1 rfl (lv_room (Nat.le_of_ble_eq_true rfl)) d_Mod_hoses_42 ⟨Nat.zero_le _, Nat.zero_le _⟩) hS (fun q _ h => hA H hS.1 q h) (fun q h => hA H hS.1 q h) (fun t H1 locs ht hW hB hz1 hk1 hS => ?_)
        obtain ⟨hP, -, -⟩ := hB
        rw [ht] at hP
        generalize H1 = H at hP hS ⊢
        obtain ⟨y_7, hy_7⟩ : ∃ zz, zz = (g_Mod_reckon y_5 a1 0).2 := ⟨_, rfl⟩
        rw [← hy_7] at hP
        have hry_7 := rk_spec y_5 a1 0 hI (thr_M hty_5 hM) (ix_isRoom (if01 (th0 c_6).1) hI0)
        rw [← hy_7] at hry_7
        have hMy_7 : RM y_7 := ls0_M hry_7.1.1 (thr_M hty_5 hM)
        have hI : RIn y_7 := ls0_in hry_7.1.1 hI
        have hD : va_D A (wR cI cZ ad y_7) := hDx _
        refine lv_aload_n hx hb d_Mod_hoses_45 rfl (lv_at hl 0 rfl) ?_
        refine lv_iconst (v := 1) hx hb d_Mod_hoses_46 (by decide) ?_
        refine xv (As := [.int 1]) (rest := []) (C := "PlanRowsModel") ⟨hx, hb, hml, hown, hts⟩ (c_Mod_nearest l dC dI cI cZ ad y_7 hI 1) (cw_Mod_111 hts rfl rfl ⟨Nat.le_of_ble_eq_true rfl, Nat.le_of_ble_eq_true rfl⟩) hK hN hP 0 rfl rfl rfl rfl hl.1 rfl (Nat.le_of_ble_eq_true rfl) d_Mod_hoses_47 ⟨Nat.zero_le _, Nat.zero_le _⟩ ?_
        refine lv_istore_n (lv' := [(3, .int (f_Mod_nearest y_7 1)), (0, .ref (ad 0)), (1, .int a1), (2, .int a2)]) hx hb d_Mod_hoses_50 rfl hl (by decide) rfl (fun ls hl => ?_)
        refine lv_iload_n hx hb d_Mod_hoses_51 rfl (lv_at hl 0 rfl) ?_
        refine lv_if_ge (tgt := 59) hx hb d_Mod_hoses_52 (by decide) (fun c_8 => ?_) (fun c_8 => ?_)
        · refine lv_aload_n hx hb d_Mod_hoses_59 rfl (lv_at hl 1 rfl) ?_
          refine va_get (D := (dC, dI)) (ci := 9) (v := .ref (ad 9)) (C := R_Mod) (T := F_Mod) (N := 31) hx hb hbw in_Mod hown hK hP 0 rfl rfl 11 (by decide) (hbw _ w_720) (fun _ h9 => h9) rfl d_Mod_hoses_60 ?_
          refine lv_iload_n hx hb d_Mod_hoses_63 rfl (lv_at hl 0 rfl) ?_
          refine va_iald hx hb hK hP 9 0 rfl rfl (nr_ix hI c_8) d_Mod_hoses_64 ?_
          refine lv_bipush (v := 100) hx hb d_Mod_hoses_65 (by decide) ?_
          refine lv_idiv hx hb d_Mod_hoses_67 (by decide) ?_
          refine lv_iload_n hx hb d_Mod_hoses_68 rfl (lv_at hl 3 rfl) ?_
          refine lv_iadd hx hb d_Mod_hoses_69 ?_
          refine lv_iconst (v := 1) hx hb d_Mod_hoses_70 (by decide) ?_
          refine lv_isub hx hb d_Mod_hoses_71 ?_
          refine lv_iload_n hx hb d_Mod_hoses_72 rfl (lv_at hl 3 rfl) ?_
          refine lv_idiv hx hb d_Mod_hoses_73 (nz_in (if01 (th0 c_6).2.1)) ?_
          have gy_5 := hy_5.symm; subst gy_5
          have gy_7 := hy_7.symm; subst gy_7
          have hg : g_Mod_hoses x a1 a2 = ((((((q_m_least ((g_Mod_reckon ((g_Mod_throwing x (if (f_Mod_isRoom x a1) = 0 then 1 else 0 : Int32) (if (f_Mod_in a2 1 100) = 0 then 1 else 0 : Int32) 0 0).2) a1 0).2)) (f_Mod_nearest ((g_Mod_reckon ((g_Mod_throwing x (if (f_Mod_isRoom x a1) = 0 then 1 else 0 : Int32) (if (f_Mod_in a2 1 100) = 0 then 1 else 0 : Int32) 0 0).2) a1 0).2) 1).toNatClampNeg) / 100) + a2) - 1) / a2, ((g_Mod_reckon ((g_Mod_throwing x (if (f_Mod_isRoom x a1) = 0 then 1 else 0 : Int32) (if (f_Mod_in a2 1 100) = 0 then 1 else 0 : Int32) 0 0).2) a1 0).2)) := by unfold g_Mod_hoses; rw [if_pos c_6, if_pos c_8]
          exact W.toX (W.iret (v := (((((q_m_least ((g_Mod_reckon ((g_Mod_throwing x (if (f_Mod_isRoom x a1) = 0 then 1 else 0 : Int32) (if (f_Mod_in a2 1 100) = 0 then 1 else 0 : Int32) 0 0).2) a1 0).2)) (f_Mod_nearest ((g_Mod_reckon ((g_Mod_throwing x (if (f_Mod_isRoom x a1) = 0 then 1 else 0 : Int32) (if (f_Mod_in a2 1 100) = 0 then 1 else 0 : Int32) 0 0).2) a1 0).2) 1).toNatClampNeg) / 100) + a2) - 1) / a2) hx hb hr (fun t ht hW => ⟨by rw [hg, pr_fst], ⟨by rw [ht, hg, pr_snd]; exact hP, va_K.moved hW.alike hK, hN.warm hW⟩, hS.F ht⟩) hS.2.2 d_Mod_hoses_74)
        · refine lv_iconst (v := (-1)) hx hb d_Mod_hoses_55 (by decide) ?_
          refine lv_goto (tgt := 74) hx hb d_Mod_hoses_56 (by decide) ?_
          have gy_5 := hy_5.symm; subst gy_5
          have gy_7 := hy_7.symm; subst gy_7
          have hg : g_Mod_hoses x a1 a2 = ((-1), ((g_Mod_reckon ((g_Mod_throwing x (if (f_Mod_isRoom x a1) = 0 then 1 else 0 : Int32) (if (f_Mod_in a2 1 100) = 0 then 1 else 0 : Int32) 0 0).2) a1 0).2)) := by unfold g_Mod_hoses; rw [if_pos c_6, if_neg c_8]
          exact W.toX (W.iret (v := (-1)) hx hb hr (fun t ht hW => ⟨by rw [hg, pr_fst], ⟨by rw [ht, hg, pr_snd]; exact hP, va_K.moved hW.alike hK, hN.warm hW⟩, hS.F ht⟩) hS.2.2 d_Mod_hoses_74)
      · refine lv_iconst (v := 0) hx hb d_Mod_hoses_37 (by decide) ?_
        have gy_5 := hy_5.symm; subst gy_5
        have hg : g_Mod_hoses x a1 a2 = (0, ((g_Mod_throwing x (if (f_Mod_isRoom x a1) = 0 then 1 else 0 : Int32) (if (f_Mod_in a2 1 100) = 0 then 1 else 0 : Int32) 0 0).2)) := by unfold g_Mod_hoses; rw [if_neg c_6]
        exact W.toX (W.iret (v := 0) hx hb hr (fun t ht hW => ⟨by rw [hg, pr_fst], ⟨by rw [ht, hg, pr_snd]; exact hP, va_K.moved hW.alike hK, hN.warm hW⟩, hS.F ht⟩) hS.2.2 d_Mod_hoses_38)
    refine lv_if_ne (tgt := 28) hx hb d_Mod_hoses_21 (by decide) (fun c_4 => ?_) (fun c_4 => ?_)
    · refine lv_iconst (v := 0) hx hb d_Mod_hoses_28 (by decide) ?_
      rw [show (if (f_Mod_in a2 1 100) = 0 then 1 else 0 : Int32) = 0 from by rw [if_neg c_4]] at jn_3
      exact jn_3
    · refine lv_iconst (v := 1) hx hb d_Mod_hoses_24 (by decide) ?_
      refine lv_goto (tgt := 29) hx hb d_Mod_hoses_25 (by decide) ?_
      rw [show (if (f_Mod_in a2 1 100) = 0 then 1 else 0 : Int32) = 1 from by rw [if_pos c_4]] at jn_3
      exact jn_3
  refine lv_if_ne (tgt := 13) hx hb d_Mod_hoses_6 (by decide) (fun c_2 => ?_) (fun c_2 => ?_)
  · refine lv_iconst (v := 0) hx hb d_Mod_hoses_13 (by decide) ?_
    rw [show (if (f_Mod_isRoom x a1) = 0 then 1 else 0 : Int32) = 0 from by rw [if_neg c_2]] at jn_1
    exact jn_1
  · refine lv_iconst (v := 1) hx hb d_Mod_hoses_9 (by decide) ?_
    refine lv_goto (tgt := 14) hx hb d_Mod_hoses_10 (by decide) ?_
    rw [show (if (f_Mod_isRoom x a1) = 0 then 1 else 0 : Int32) = 1 from by rw [if_pos c_2]] at jn_1
    exact jn_1
noncomputable def L_Mod_trapped (a1 : Int32) : Nat → Int32 → Int32 → RT → Int32 × RT
  | 0, _, _, z => (0, z)
  | k + 1, lft, i, z => if (q_m_rooms z) ≤ i then ((-1), z) else (if 2 ≤ ((q_m_kind ((g_Mod_reckon z i 0).2)) i.toNatClampNeg) then L_Mod_trapped a1 k lft (i + 1) ((g_Mod_reckon z i 0).2) else (if 0 ≤ (f_Mod_nearest ((g_Mod_reckon z i 0).2) 2) then L_Mod_trapped a1 k lft (i + 1) ((g_Mod_reckon z i 0).2) else (if lft = 0 then (i, ((g_Mod_reckon z i 0).2)) else L_Mod_trapped a1 k (lft + (-1)) (i + 1) ((g_Mod_reckon z i 0).2))))
theorem L_Mod_trapped_s (a1 : Int32) (k : Nat) (lft : Int32) (i : Int32) (z : RT) : L_Mod_trapped a1 (k + 1) lft i z = if (q_m_rooms z) ≤ i then ((-1), z) else (if 2 ≤ ((q_m_kind ((g_Mod_reckon z i 0).2)) i.toNatClampNeg) then L_Mod_trapped a1 k lft (i + 1) ((g_Mod_reckon z i 0).2) else (if 0 ≤ (f_Mod_nearest ((g_Mod_reckon z i 0).2) 2) then L_Mod_trapped a1 k lft (i + 1) ((g_Mod_reckon z i 0).2) else (if lft = 0 then (i, ((g_Mod_reckon z i 0).2)) else L_Mod_trapped a1 k (lft + (-1)) (i + 1) ((g_Mod_reckon z i 0).2)))) := rfl
noncomputable def g_Mod_trapped (x : RT) (a1 : Int32) : Int32 × RT := if ((g_Mod_throwing x (if 0 ≤ a1 then 0 else 1 : Int32) 0 0 0).1) = 0 then L_Mod_trapped a1 41 a1 0 ((g_Mod_throwing x (if 0 ≤ a1 then 0 else 1 : Int32) 0 0 0).2) else (0, ((g_Mod_throwing x (if 0 ≤ a1 then 0 else 1 : Int32) 0 0 0).2))
set_option maxHeartbeats 400000 in
set_option maxRecDepth 100000 in
theorem u_Mod_trapped (l : Launch) (dC : Nat → ClassId) (dI : Nat → Nat → Nat) (cI cZ : ClassId) (ad : Nat → Nat) (hj : aInj 21 ad) (x : RT) (hI : RIn x) (sz : Nat) (a1 : Int32) (hM : RM x) : MX l y_Mod_trapped (Cond.code y_Mod_trapped b_Mod_trapped 4 (some .int) :: BW) { frames := 2, cells := 0, slots := 0, locals := 48 } (PCZ sz (dC, dI) [(cI, .int), (cZ, .boolean)] (wR cI cZ ad x) [.ref (ad 0), .int a1]) (UQ (some (.int (g_Mod_trapped x a1).1)) (WB (dC, dI) [(cI, .int), (cZ, .boolean)] (wR cI cZ ad (g_Mod_trapped x a1).2)) (aC 21 ad sz)) 0 0 (aC 21 ad sz) := by
  refine MX.ofW (cc := b_Mod_trapped) (maxL := 4) (ret := (some .int)) (by decide) rfl ?_
  intro p e s m args below meth c s₁ B hml hex hv
  obtain ⟨hsz, rfl, hP, hK, hN⟩ := hv
  subst hsz
  have hx := B.exec
  have hb := B.bytes
  have hr := B.returns
  have hts := atoms_spec (ws := Cond.code y_Mod_trapped b_Mod_trapped 4 (some .int) :: BW) B.pre
  have hbw : ∀ w ∈ BW, w.before ([.ref (ad 0), .int a1]).toArray s = true := fun w h => hts w (List.mem_cons_of_mem _ h)
  have hown : s.vm.findClass "PlanRowsModel" = some m.cls := findClass_of_methodNamed B.named
  have hlocks := B.notSynchronized
  have hDx : ∀ z, va_D (aC 21 ad s.heap.size) (wR cI cZ ad z) := fun z => w_D hj (wR_ad cI cZ ad z) _
  have hA : ∀ H : Heap, s.heap.size ≤ H.size → ∀ q, aC 21 ad H.size q → aC 21 ad s.heap.size q := fun H h => aC_le h
  generalize aC 21 ad s.heap.size = A at hDx hA ⊢
  have hD := hDx x
  have hS : va_S A s.heap s.heap [] := va_S.rf
  have hI0 := hI
  have hl := lv_entry ([.ref (ad 0), .int a1]) (n := 4) (Nat.le_of_ble_eq_true rfl)
  rw [lg_entry_eq]
  generalize (lg_sl ([.ref (ad 0), .int a1]) ++ List.replicate (4 - (lg_sl ([.ref (ad 0), .int a1])).length) Slot.unset).toArray = ls at hl ⊢
  obtain ⟨H, hH⟩ : ∃ H, H = s.heap := ⟨_, rfl⟩
  obtain ⟨locs, hlocs⟩ : ∃ locs : List Loc, locs = [] := ⟨_, rfl⟩
  have hP : va_P (dC, dI) clsA (wR cI cZ ad x) H := by rw [hH]; exact hP
  have hS : va_S A s.heap H locs := by rw [hH, hlocs]; exact hS
  rw [← hlocs]
  have hW0 : ∀ (R : Room) (Q : State → Prop) (g : JFrame), W p l e R s m ([.ref (ad 0), .int a1]).toArray below meth c H locs 0 0 Q g → W p l e R s m ([.ref (ad 0), .int a1]).toArray below meth c s.heap locs 0 0 Q g := fun R Q g h => by rw [← hH]; exact h
  refine hW0 _ _ _ ?_
  have hl : lv_has ls 4 [(0, .ref (ad 0)), (1, .int a1)] := hl
  refine lv_aload_n hx hb d_Mod_trapped_0 rfl (lv_at hl 0 rfl) ?_
  refine lv_iload_n hx hb d_Mod_trapped_1 rfl (lv_at hl 1 rfl) ?_
  have jn_1 : W p l e { frames := 2, cells := 0, slots := 0, locals := 48 } s m ([.ref (ad 0), .int a1]).toArray below meth c H locs 0 0 (MQX below (UQ (some (.int (g_Mod_trapped x a1).1)) (WB (dC, dI) [(cI, .int), (cZ, .boolean)] (wR cI cZ ad (g_Mod_trapped x a1).2)) A) ([.ref (ad 0), .int a1]).toArray s 0 0 A) (F0 m 10 ls [.int (if 0 ≤ a1 then 0 else 1 : Int32), .ref (ad 0)]) := by
    refine lv_iconst (v := 0) hx hb d_Mod_trapped_10 (by decide) ?_
    refine lv_iconst (v := 0) hx hb d_Mod_trapped_11 (by decide) ?_
    refine lv_iconst (v := 0) hx hb d_Mod_trapped_12 (by decide) ?_
    refine x_upd (x_runV (C := "PlanRowsModel") (b := (ad 0)) (As := [.int (if 0 ≤ a1 then 0 else 1 : Int32), .int 0, .int 0, .int 0]) (rest := []) ⟨hx, hb, hml, hown, hts⟩ (u_Mod_throwing l dC dI cI cZ ad hj x hI H.size (if 0 ≤ a1 then 0 else 1 : Int32) 0 0 0) (cw_Mod_88 hts rfl rfl ⟨Nat.le_of_ble_eq_true rfl, Nat.le_of_ble_eq_true rfl⟩) ⟨PCZ.blind, va_recv hK hP (ci := 9) (q0 := 0) rfl rfl, PCZ.at hK hN hP⟩ rfl rfl hl.1 rfl (lv_room (Nat.le_of_ble_eq_true rfl)) d_Mod_trapped_13 ⟨Nat.zero_le _, Nat.zero_le _⟩) hS (fun q _ h => hA H hS.1 q h) (fun q h => hA H hS.1 q h) (fun t H1 locs ht hW hB hz1 hk1 hS => ?_)
    obtain ⟨hP, -, -⟩ := hB
    rw [ht] at hP
    generalize H1 = H at hP hS ⊢
    obtain ⟨y_3, hy_3⟩ : ∃ zz, zz = (g_Mod_throwing x (if 0 ≤ a1 then 0 else 1 : Int32) 0 0 0).2 := ⟨_, rfl⟩
    rw [← hy_3] at hP
    have hty_3 : thr x y_3 := by rw [hy_3]; exact thr_throwing x (if 0 ≤ a1 then 0 else 1 : Int32) 0 0 0
    have hI : RIn y_3 := ri_thr hty_3 hI0
    have hD : va_D A (wR cI cZ ad y_3) := hDx _
    refine lv_if_eq (tgt := 21) hx hb d_Mod_trapped_16 (by decide) (fun c_4 => ?_) (fun c_4 => ?_)
    · refine lv_iload_n hx hb d_Mod_trapped_21 rfl (lv_at hl 1 rfl) ?_
      refine lv_istore_n (lv' := [(2, .int a1), (0, .ref (ad 0)), (1, .int a1)]) hx hb d_Mod_trapped_22 rfl hl (by decide) rfl (fun ls hl => ?_)
      refine lv_iconst (v := 0) hx hb d_Mod_trapped_23 (by decide) ?_
      refine lv_istore_n (lv' := [(3, .int 0), (2, .int a1), (0, .ref (ad 0)), (1, .int a1)]) hx hb d_Mod_trapped_24 rfl hl (by decide) rfl (fun ls hl => ?_)
      have loop : ∀ (k : Nat) (lft : Int32) (i : Int32) (z : RT) (ls : Array Slot) (H : Heap) (locs : List Loc), 0 ≤ i.toInt ∧ i.toInt ≤ (q_m_rooms x).toInt ∧ (q_m_rooms x).toInt - i.toInt < ((k : Nat) : Int) → tl x z → g_Mod_trapped x a1 = L_Mod_trapped a1 k lft i z → va_P (dC, dI) clsA (wR cI cZ ad z) H → va_S A s.heap H locs → lv_has ls 4 [(3, .int i), (2, .int lft), (0, .ref (ad 0)), (1, .int a1)] → W p l e { frames := 2, cells := 0, slots := 0, locals := 48 } s m ([.ref (ad 0), .int a1]).toArray below meth c H locs 0 0 (MQX below (UQ (some (.int (g_Mod_trapped x a1).1)) (WB (dC, dI) [(cI, .int), (cZ, .boolean)] (wR cI cZ ad (g_Mod_trapped x a1).2)) A) ([.ref (ad 0), .int a1]).toArray s 0 0 A) (F0 m 25 ls []) := by
        intro k
        induction k with
        | zero =>
          intro lft i z ls H locs hi hz hq hP hS hl
          obtain ⟨h1, h2, h3⟩ := hi
          omega
        | succ k ih =>
          intro lft i z ls H locs hi hz hq hP hS hl
          have hq := hq.trans (L_Mod_trapped_s a1 k lft i z)
          have hI := tl_in hz hI0
          have hD := hDx z
          refine lv_iload_n hx hb d_Mod_trapped_25 rfl (lv_at hl 0 rfl) ?_
          refine lv_aload_n hx hb d_Mod_trapped_26 rfl (lv_at hl 2 rfl) ?_
          refine va_get (D := (dC, dI)) (ci := 9) (v := .int (q_m_rooms z)) (C := R_Mod) (T := F_Mod) (N := 31) hx hb hbw in_Mod hown hK hP 0 rfl rfl 1 (by decide) (hbw _ w_710) (fun _ h9 => h9) rfl d_Mod_trapped_27 ?_
          refine lv_icmp_ge (tgt := 72) hx hb d_Mod_trapped_30 (by decide) (fun c_5 => ?_) (fun c_5 => ?_)
          · refine lv_iconst (v := (-1)) hx hb d_Mod_trapped_72 (by decide) ?_
            have hg : g_Mod_trapped x a1 = ((-1), z) := by rw [hq, if_pos c_5]
            exact W.toX (W.iret (v := (-1)) hx hb hr (fun t ht hW => ⟨by rw [hg, pr_fst], ⟨by rw [ht, hg, pr_snd]; exact hP, va_K.moved hW.alike hK, hN.warm hW⟩, hS.F ht⟩) hS.2.2 d_Mod_trapped_73)
          · refine lv_aload_n hx hb d_Mod_trapped_33 rfl (lv_at hl 2 rfl) ?_
            refine lv_iload_n hx hb d_Mod_trapped_34 rfl (lv_at hl 0 rfl) ?_
            refine lv_iconst (v := 0) hx hb d_Mod_trapped_35 (by decide) ?_
            refine x_upd (x_runV (C := "PlanRowsModel") (b := (ad 0)) (As := [.int i, .int 0]) (rest := []) ⟨hx, hb, hml, hown, hts⟩ (u_Mod_reckon l dC dI cI cZ ad hj z hI H.size i 0 (tl_ix hz hI0 hi c_5) (tl_M hz hM)) (cw_Mod_107 hts rfl rfl ⟨Nat.le_of_ble_eq_true rfl, Nat.le_of_ble_eq_true rfl⟩) ⟨PCZ.blind, va_recv hK hP (ci := 9) (q0 := 0) rfl rfl, PCZ.at hK hN hP⟩ rfl rfl hl.1 rfl (lv_room (Nat.le_of_ble_eq_true rfl)) d_Mod_trapped_36 ⟨Nat.zero_le _, Nat.zero_le _⟩) hS (fun q _ h => hA H hS.1 q h) (fun q h => hA H hS.1 q h) (fun t H1 locs ht hW hB hz1 hk1 hS => ?_)
            obtain ⟨hP, -, -⟩ := hB
            rw [ht] at hP
            generalize H1 = H at hP hS ⊢
            obtain ⟨y_6, hy_6⟩ : ∃ zz, zz = (g_Mod_reckon z i 0).2 := ⟨_, rfl⟩
            rw [← hy_6] at hP
            have hry_6 := rk_spec z i 0 hI (tl_M hz hM) (tl_ix hz hI0 hi c_5)
            rw [← hy_6] at hry_6
            have hMy_6 : RM y_6 := ls0_M hry_6.1.1 (tl_M hz hM)
            have hzy_6 : tl x y_6 := tl_ls hz hry_6.1.1
            have hI : RIn y_6 := ls0_in hry_6.1.1 hI
            have hD : va_D A (wR cI cZ ad y_6) := hDx _
            refine lv_aload_n hx hb d_Mod_trapped_39 rfl (lv_at hl 2 rfl) ?_
            refine va_get (D := (dC, dI)) (ci := 9) (v := .ref (ad 2)) (C := R_Mod) (T := F_Mod) (N := 31) hx hb hbw in_Mod hown hK hP 0 rfl rfl 3 (by decide) (hbw _ w_712) (fun _ h9 => h9) rfl d_Mod_trapped_40 ?_
            refine lv_iload_n hx hb d_Mod_trapped_43 rfl (lv_at hl 0 rfl) ?_
            refine va_iald hx hb hK hP 2 0 rfl rfl (tl_ix hz hI0 hi c_5) d_Mod_trapped_44 ?_
            refine lv_iconst (v := 2) hx hb d_Mod_trapped_45 (by decide) ?_
            refine lv_icmp_ge (tgt := 66) hx hb d_Mod_trapped_46 (by decide) (fun c_7 => ?_) (fun c_7 => ?_)
            · refine lv_iinc (v := i + 1) (lv' := [(3, .int (i + 1)), (2, .int lft), (0, .ref (ad 0)), (1, .int a1)]) hx hb d_Mod_trapped_66 hl (k := 0) rfl rfl (by decide) rfl (fun ls hl => ?_)
              refine lv_goto (tgt := 25) hx hb d_Mod_trapped_69 (by decide) ?_
              have gy_6 := hy_6.symm; subst gy_6
              exact ih lft (i + 1) ((g_Mod_reckon z i 0).2) ls H locs (tl_inc hz hI0 hi c_5) hzy_6 (by rw [hq, if_neg c_5, if_pos c_7]) hP hS (lv_sub hl [0, 1, 2, 3] rfl)
            · refine lv_aload_n hx hb d_Mod_trapped_49 rfl (lv_at hl 2 rfl) ?_
              refine lv_iconst (v := 2) hx hb d_Mod_trapped_50 (by decide) ?_
              refine xv (As := [.int 2]) (rest := []) (C := "PlanRowsModel") ⟨hx, hb, hml, hown, hts⟩ (c_Mod_nearest l dC dI cI cZ ad y_6 hI 2) (cw_Mod_111 hts rfl rfl ⟨Nat.le_of_ble_eq_true rfl, Nat.le_of_ble_eq_true rfl⟩) hK hN hP 0 rfl rfl rfl rfl hl.1 rfl (Nat.le_of_ble_eq_true rfl) d_Mod_trapped_51 ⟨Nat.zero_le _, Nat.zero_le _⟩ ?_
              refine lv_if_ge (tgt := 66) hx hb d_Mod_trapped_54 (by decide) (fun c_8 => ?_) (fun c_8 => ?_)
              · refine lv_iinc (v := i + 1) (lv' := [(3, .int (i + 1)), (2, .int lft), (0, .ref (ad 0)), (1, .int a1)]) hx hb d_Mod_trapped_66 hl (k := 0) rfl rfl (by decide) rfl (fun ls hl => ?_)
                refine lv_goto (tgt := 25) hx hb d_Mod_trapped_69 (by decide) ?_
                have gy_6 := hy_6.symm; subst gy_6
                exact ih lft (i + 1) ((g_Mod_reckon z i 0).2) ls H locs (tl_inc hz hI0 hi c_5) hzy_6 (by rw [hq, if_neg c_5, if_neg c_7, if_pos c_8]) hP hS (lv_sub hl [0, 1, 2, 3] rfl)
              · refine lv_iload_n hx hb d_Mod_trapped_57 rfl (lv_at hl 1 rfl) ?_
                refine lv_if_ne (tgt := 63) hx hb d_Mod_trapped_58 (by decide) (fun c_9 => ?_) (fun c_9 => ?_)
                · refine lv_iinc (v := lft + (-1)) (lv' := [(2, .int (lft + (-1))), (3, .int i), (0, .ref (ad 0)), (1, .int a1)]) hx hb d_Mod_trapped_63 hl (k := 1) rfl rfl (by decide) rfl (fun ls hl => ?_)
                  refine lv_iinc (v := i + 1) (lv' := [(3, .int (i + 1)), (2, .int (lft + (-1))), (0, .ref (ad 0)), (1, .int a1)]) hx hb d_Mod_trapped_66 hl (k := 1) rfl rfl (by decide) rfl (fun ls hl => ?_)
                  refine lv_goto (tgt := 25) hx hb d_Mod_trapped_69 (by decide) ?_
                  have gy_6 := hy_6.symm; subst gy_6
                  exact ih (lft + (-1)) (i + 1) ((g_Mod_reckon z i 0).2) ls H locs (tl_inc hz hI0 hi c_5) hzy_6 (by rw [hq, if_neg c_5, if_neg c_7, if_neg c_8, if_neg c_9]) hP hS (lv_sub hl [0, 1, 2, 3] rfl)
                · refine lv_iload_n hx hb d_Mod_trapped_61 rfl (lv_at hl 0 rfl) ?_
                  have gy_6 := hy_6.symm; subst gy_6
                  have hg : g_Mod_trapped x a1 = (i, ((g_Mod_reckon z i 0).2)) := by rw [hq, if_neg c_5, if_neg c_7, if_neg c_8, if_pos c_9]
                  exact W.toX (W.iret (v := i) hx hb hr (fun t ht hW => ⟨by rw [hg, pr_fst], ⟨by rw [ht, hg, pr_snd]; exact hP, va_K.moved hW.alike hK, hN.warm hW⟩, hS.F ht⟩) hS.2.2 d_Mod_trapped_62)
      exact loop 41 a1 0 y_3 ls H locs (lp_0 (N := 40) hI0.1 (by decide)) (tl_thr (show thr x y_3 from hty_3)) (by have gy_3 := hy_3.symm; subst gy_3; unfold g_Mod_trapped; rw [if_pos c_4]) hP hS (lv_sub hl [0, 1, 2, 3] rfl)
    · refine lv_iconst (v := 0) hx hb d_Mod_trapped_19 (by decide) ?_
      have gy_3 := hy_3.symm; subst gy_3
      have hg : g_Mod_trapped x a1 = (0, ((g_Mod_throwing x (if 0 ≤ a1 then 0 else 1 : Int32) 0 0 0).2)) := by unfold g_Mod_trapped; rw [if_neg c_4]
      exact W.toX (W.iret (v := 0) hx hb hr (fun t ht hW => ⟨by rw [hg, pr_fst], ⟨by rw [ht, hg, pr_snd]; exact hP, va_K.moved hW.alike hK, hN.warm hW⟩, hS.F ht⟩) hS.2.2 d_Mod_trapped_20)
  refine lv_if_ge (tgt := 9) hx hb d_Mod_trapped_2 (by decide) (fun c_2 => ?_) (fun c_2 => ?_)
  · refine lv_iconst (v := 0) hx hb d_Mod_trapped_9 (by decide) ?_
    rw [show (if 0 ≤ a1 then 0 else 1 : Int32) = 0 from by rw [if_pos c_2]] at jn_1
    exact jn_1
  · refine lv_iconst (v := 1) hx hb d_Mod_trapped_5 (by decide) ?_
    refine lv_goto (tgt := 10) hx hb d_Mod_trapped_6 (by decide) ?_
    rw [show (if 0 ≤ a1 then 0 else 1 : Int32) = 1 from by rw [if_neg c_2]] at jn_1
    exact jn_1
theorem wv_oth {y z : RT} (hz : wz y z) (u d : Int32) : othR y u d = othR z u d := by
  obtain ⟨w, n, rfl⟩ := hz
  rfl
noncomputable def L_Mod_way (a1 a2 a3 : Int32) : Nat → Int32 → RT → Int32 × RT
  | 0, _, z => (0, z)
  | k + 1, u, z => if u = a1 then (((q_m_least z) (q_m_end z).toNatClampNeg) / 100, z) else L_Mod_way a1 a2 a3 k (if ((q_m_from (s_m_steps (s_m_way z (upd (q_m_way z) (q_m_steps z).toNatClampNeg (f_Mod_into z u))) ((q_m_steps (s_m_way z (upd (q_m_way z) (q_m_steps z).toNatClampNeg (f_Mod_into z u)))) + 1))) (f_Mod_into z u).toNatClampNeg) = u then (q_m_to (s_m_steps (s_m_way z (upd (q_m_way z) (q_m_steps z).toNatClampNeg (f_Mod_into z u))) ((q_m_steps (s_m_way z (upd (q_m_way z) (q_m_steps z).toNatClampNeg (f_Mod_into z u)))) + 1))) (f_Mod_into z u).toNatClampNeg else (q_m_from (s_m_steps (s_m_way z (upd (q_m_way z) (q_m_steps z).toNatClampNeg (f_Mod_into z u))) ((q_m_steps (s_m_way z (upd (q_m_way z) (q_m_steps z).toNatClampNeg (f_Mod_into z u)))) + 1))) (f_Mod_into z u).toNatClampNeg : Int32) (s_m_steps (s_m_way z (upd (q_m_way z) (q_m_steps z).toNatClampNeg (f_Mod_into z u))) ((q_m_steps (s_m_way z (upd (q_m_way z) (q_m_steps z).toNatClampNeg (f_Mod_into z u)))) + 1))
theorem L_Mod_way_s (a1 a2 a3 : Int32) (k : Nat) (u : Int32) (z : RT) : L_Mod_way a1 a2 a3 (k + 1) u z = if u = a1 then (((q_m_least z) (q_m_end z).toNatClampNeg) / 100, z) else L_Mod_way a1 a2 a3 k (if ((q_m_from (s_m_steps (s_m_way z (upd (q_m_way z) (q_m_steps z).toNatClampNeg (f_Mod_into z u))) ((q_m_steps (s_m_way z (upd (q_m_way z) (q_m_steps z).toNatClampNeg (f_Mod_into z u)))) + 1))) (f_Mod_into z u).toNatClampNeg) = u then (q_m_to (s_m_steps (s_m_way z (upd (q_m_way z) (q_m_steps z).toNatClampNeg (f_Mod_into z u))) ((q_m_steps (s_m_way z (upd (q_m_way z) (q_m_steps z).toNatClampNeg (f_Mod_into z u)))) + 1))) (f_Mod_into z u).toNatClampNeg else (q_m_from (s_m_steps (s_m_way z (upd (q_m_way z) (q_m_steps z).toNatClampNeg (f_Mod_into z u))) ((q_m_steps (s_m_way z (upd (q_m_way z) (q_m_steps z).toNatClampNeg (f_Mod_into z u)))) + 1))) (f_Mod_into z u).toNatClampNeg : Int32) (s_m_steps (s_m_way z (upd (q_m_way z) (q_m_steps z).toNatClampNeg (f_Mod_into z u))) ((q_m_steps (s_m_way z (upd (q_m_way z) (q_m_steps z).toNatClampNeg (f_Mod_into z u)))) + 1)) := rfl
noncomputable def g_Mod_way (x : RT) (a1 a2 a3 : Int32) : Int32 × RT := if ((g_Mod_throwing x (if (f_Mod_isRoom x a1) = 0 then 1 else (if (f_Mod_in a2 0 2) = 0 then 1 else 0) : Int32) (if (f_Mod_in a3 0 255) = 0 then 1 else 0 : Int32) 0 0).1) = 0 then (if 0 ≤ (q_m_end (s_m_stairs (s_m_steps (s_m_end ((g_Mod_reckon ((g_Mod_throwing x (if (f_Mod_isRoom x a1) = 0 then 1 else (if (f_Mod_in a2 0 2) = 0 then 1 else 0) : Int32) (if (f_Mod_in a3 0 255) = 0 then 1 else 0 : Int32) 0 0).2) a1 a3).2) (f_Mod_nearest ((g_Mod_reckon ((g_Mod_throwing x (if (f_Mod_isRoom x a1) = 0 then 1 else (if (f_Mod_in a2 0 2) = 0 then 1 else 0) : Int32) (if (f_Mod_in a3 0 255) = 0 then 1 else 0 : Int32) 0 0).2) a1 a3).2) a2)) 0) 0)) then L_Mod_way a1 a2 a3 40 (q_m_end (s_m_stairs (s_m_stairs (s_m_steps (s_m_end ((g_Mod_reckon ((g_Mod_throwing x (if (f_Mod_isRoom x a1) = 0 then 1 else (if (f_Mod_in a2 0 2) = 0 then 1 else 0) : Int32) (if (f_Mod_in a3 0 255) = 0 then 1 else 0 : Int32) 0 0).2) a1 a3).2) (f_Mod_nearest ((g_Mod_reckon ((g_Mod_throwing x (if (f_Mod_isRoom x a1) = 0 then 1 else (if (f_Mod_in a2 0 2) = 0 then 1 else 0) : Int32) (if (f_Mod_in a3 0 255) = 0 then 1 else 0 : Int32) 0 0).2) a1 a3).2) a2)) 0) 0) (((q_m_least (s_m_stairs (s_m_steps (s_m_end ((g_Mod_reckon ((g_Mod_throwing x (if (f_Mod_isRoom x a1) = 0 then 1 else (if (f_Mod_in a2 0 2) = 0 then 1 else 0) : Int32) (if (f_Mod_in a3 0 255) = 0 then 1 else 0 : Int32) 0 0).2) a1 a3).2) (f_Mod_nearest ((g_Mod_reckon ((g_Mod_throwing x (if (f_Mod_isRoom x a1) = 0 then 1 else (if (f_Mod_in a2 0 2) = 0 then 1 else 0) : Int32) (if (f_Mod_in a3 0 255) = 0 then 1 else 0 : Int32) 0 0).2) a1 a3).2) a2)) 0) 0)) (q_m_end (s_m_stairs (s_m_steps (s_m_end ((g_Mod_reckon ((g_Mod_throwing x (if (f_Mod_isRoom x a1) = 0 then 1 else (if (f_Mod_in a2 0 2) = 0 then 1 else 0) : Int32) (if (f_Mod_in a3 0 255) = 0 then 1 else 0 : Int32) 0 0).2) a1 a3).2) (f_Mod_nearest ((g_Mod_reckon ((g_Mod_throwing x (if (f_Mod_isRoom x a1) = 0 then 1 else (if (f_Mod_in a2 0 2) = 0 then 1 else 0) : Int32) (if (f_Mod_in a3 0 255) = 0 then 1 else 0 : Int32) 0 0).2) a1 a3).2) a2)) 0) 0)).toNatClampNeg) - ((q_m_least (s_m_stairs (s_m_steps (s_m_end ((g_Mod_reckon ((g_Mod_throwing x (if (f_Mod_isRoom x a1) = 0 then 1 else (if (f_Mod_in a2 0 2) = 0 then 1 else 0) : Int32) (if (f_Mod_in a3 0 255) = 0 then 1 else 0 : Int32) 0 0).2) a1 a3).2) (f_Mod_nearest ((g_Mod_reckon ((g_Mod_throwing x (if (f_Mod_isRoom x a1) = 0 then 1 else (if (f_Mod_in a2 0 2) = 0 then 1 else 0) : Int32) (if (f_Mod_in a3 0 255) = 0 then 1 else 0 : Int32) 0 0).2) a1 a3).2) a2)) 0) 0)) (q_m_end (s_m_stairs (s_m_steps (s_m_end ((g_Mod_reckon ((g_Mod_throwing x (if (f_Mod_isRoom x a1) = 0 then 1 else (if (f_Mod_in a2 0 2) = 0 then 1 else 0) : Int32) (if (f_Mod_in a3 0 255) = 0 then 1 else 0 : Int32) 0 0).2) a1 a3).2) (f_Mod_nearest ((g_Mod_reckon ((g_Mod_throwing x (if (f_Mod_isRoom x a1) = 0 then 1 else (if (f_Mod_in a2 0 2) = 0 then 1 else 0) : Int32) (if (f_Mod_in a3 0 255) = 0 then 1 else 0 : Int32) 0 0).2) a1 a3).2) a2)) 0) 0)).toNatClampNeg) / 100 * 100))) (s_m_stairs (s_m_stairs (s_m_steps (s_m_end ((g_Mod_reckon ((g_Mod_throwing x (if (f_Mod_isRoom x a1) = 0 then 1 else (if (f_Mod_in a2 0 2) = 0 then 1 else 0) : Int32) (if (f_Mod_in a3 0 255) = 0 then 1 else 0 : Int32) 0 0).2) a1 a3).2) (f_Mod_nearest ((g_Mod_reckon ((g_Mod_throwing x (if (f_Mod_isRoom x a1) = 0 then 1 else (if (f_Mod_in a2 0 2) = 0 then 1 else 0) : Int32) (if (f_Mod_in a3 0 255) = 0 then 1 else 0 : Int32) 0 0).2) a1 a3).2) a2)) 0) 0) (((q_m_least (s_m_stairs (s_m_steps (s_m_end ((g_Mod_reckon ((g_Mod_throwing x (if (f_Mod_isRoom x a1) = 0 then 1 else (if (f_Mod_in a2 0 2) = 0 then 1 else 0) : Int32) (if (f_Mod_in a3 0 255) = 0 then 1 else 0 : Int32) 0 0).2) a1 a3).2) (f_Mod_nearest ((g_Mod_reckon ((g_Mod_throwing x (if (f_Mod_isRoom x a1) = 0 then 1 else (if (f_Mod_in a2 0 2) = 0 then 1 else 0) : Int32) (if (f_Mod_in a3 0 255) = 0 then 1 else 0 : Int32) 0 0).2) a1 a3).2) a2)) 0) 0)) (q_m_end (s_m_stairs (s_m_steps (s_m_end ((g_Mod_reckon ((g_Mod_throwing x (if (f_Mod_isRoom x a1) = 0 then 1 else (if (f_Mod_in a2 0 2) = 0 then 1 else 0) : Int32) (if (f_Mod_in a3 0 255) = 0 then 1 else 0 : Int32) 0 0).2) a1 a3).2) (f_Mod_nearest ((g_Mod_reckon ((g_Mod_throwing x (if (f_Mod_isRoom x a1) = 0 then 1 else (if (f_Mod_in a2 0 2) = 0 then 1 else 0) : Int32) (if (f_Mod_in a3 0 255) = 0 then 1 else 0 : Int32) 0 0).2) a1 a3).2) a2)) 0) 0)).toNatClampNeg) - ((q_m_least (s_m_stairs (s_m_steps (s_m_end ((g_Mod_reckon ((g_Mod_throwing x (if (f_Mod_isRoom x a1) = 0 then 1 else (if (f_Mod_in a2 0 2) = 0 then 1 else 0) : Int32) (if (f_Mod_in a3 0 255) = 0 then 1 else 0 : Int32) 0 0).2) a1 a3).2) (f_Mod_nearest ((g_Mod_reckon ((g_Mod_throwing x (if (f_Mod_isRoom x a1) = 0 then 1 else (if (f_Mod_in a2 0 2) = 0 then 1 else 0) : Int32) (if (f_Mod_in a3 0 255) = 0 then 1 else 0 : Int32) 0 0).2) a1 a3).2) a2)) 0) 0)) (q_m_end (s_m_stairs (s_m_steps (s_m_end ((g_Mod_reckon ((g_Mod_throwing x (if (f_Mod_isRoom x a1) = 0 then 1 else (if (f_Mod_in a2 0 2) = 0 then 1 else 0) : Int32) (if (f_Mod_in a3 0 255) = 0 then 1 else 0 : Int32) 0 0).2) a1 a3).2) (f_Mod_nearest ((g_Mod_reckon ((g_Mod_throwing x (if (f_Mod_isRoom x a1) = 0 then 1 else (if (f_Mod_in a2 0 2) = 0 then 1 else 0) : Int32) (if (f_Mod_in a3 0 255) = 0 then 1 else 0 : Int32) 0 0).2) a1 a3).2) a2)) 0) 0)).toNatClampNeg) / 100 * 100)) else ((-1), s_m_stairs (s_m_steps (s_m_end ((g_Mod_reckon ((g_Mod_throwing x (if (f_Mod_isRoom x a1) = 0 then 1 else (if (f_Mod_in a2 0 2) = 0 then 1 else 0) : Int32) (if (f_Mod_in a3 0 255) = 0 then 1 else 0 : Int32) 0 0).2) a1 a3).2) (f_Mod_nearest ((g_Mod_reckon ((g_Mod_throwing x (if (f_Mod_isRoom x a1) = 0 then 1 else (if (f_Mod_in a2 0 2) = 0 then 1 else 0) : Int32) (if (f_Mod_in a3 0 255) = 0 then 1 else 0 : Int32) 0 0).2) a1 a3).2) a2)) 0) 0)) else (0, ((g_Mod_throwing x (if (f_Mod_isRoom x a1) = 0 then 1 else (if (f_Mod_in a2 0 2) = 0 then 1 else 0) : Int32) (if (f_Mod_in a3 0 255) = 0 then 1 else 0 : Int32) 0 0).2))
set_option maxHeartbeats 400000 in
set_option maxRecDepth 100000 in
theorem u_Mod_way (l : Launch) (dC : Nat → ClassId) (dI : Nat → Nat → Nat) (cI cZ : ClassId) (ad : Nat → Nat) (hj : aInj 21 ad) (x : RT) (hI : RIn x) (sz : Nat) (a1 a2 a3 : Int32) (hM : RM x) : MX l y_Mod_way (Cond.code y_Mod_way b_Mod_way 6 (some .int) :: BW) { frames := 2, cells := 0, slots := 0, locals := 48 } (PCZ sz (dC, dI) [(cI, .int), (cZ, .boolean)] (wR cI cZ ad x) [.ref (ad 0), .int a1, .int a2, .int a3]) (UQ (some (.int (g_Mod_way x a1 a2 a3).1)) (WB (dC, dI) [(cI, .int), (cZ, .boolean)] (wR cI cZ ad (g_Mod_way x a1 a2 a3).2)) (aC 21 ad sz)) 0 0 (aC 21 ad sz) := by
  refine MX.ofW (cc := b_Mod_way) (maxL := 6) (ret := (some .int)) (by decide) rfl ?_
  intro p e s m args below meth c s₁ B hml hex hv
  obtain ⟨hsz, rfl, hP, hK, hN⟩ := hv
  subst hsz
  have hx := B.exec
  have hb := B.bytes
  have hr := B.returns
  have hts := atoms_spec (ws := Cond.code y_Mod_way b_Mod_way 6 (some .int) :: BW) B.pre
  have hbw : ∀ w ∈ BW, w.before ([.ref (ad 0), .int a1, .int a2, .int a3]).toArray s = true := fun w h => hts w (List.mem_cons_of_mem _ h)
  have hown : s.vm.findClass "PlanRowsModel" = some m.cls := findClass_of_methodNamed B.named
  have hlocks := B.notSynchronized
  have hDx : ∀ z, va_D (aC 21 ad s.heap.size) (wR cI cZ ad z) := fun z => w_D hj (wR_ad cI cZ ad z) _
  have hA : ∀ H : Heap, s.heap.size ≤ H.size → ∀ q, aC 21 ad H.size q → aC 21 ad s.heap.size q := fun H h => aC_le h
  generalize aC 21 ad s.heap.size = A at hDx hA ⊢
  have hD := hDx x
  have hS : va_S A s.heap s.heap [] := va_S.rf
  have hI0 := hI
  have hl := lv_entry ([.ref (ad 0), .int a1, .int a2, .int a3]) (n := 6) (Nat.le_of_ble_eq_true rfl)
  rw [lg_entry_eq]
  generalize (lg_sl ([.ref (ad 0), .int a1, .int a2, .int a3]) ++ List.replicate (6 - (lg_sl ([.ref (ad 0), .int a1, .int a2, .int a3])).length) Slot.unset).toArray = ls at hl ⊢
  obtain ⟨H, hH⟩ : ∃ H, H = s.heap := ⟨_, rfl⟩
  obtain ⟨locs, hlocs⟩ : ∃ locs : List Loc, locs = [] := ⟨_, rfl⟩
  have hP : va_P (dC, dI) clsA (wR cI cZ ad x) H := by rw [hH]; exact hP
  have hS : va_S A s.heap H locs := by rw [hH, hlocs]; exact hS
  rw [← hlocs]
  have hW0 : ∀ (R : Room) (Q : State → Prop) (g : JFrame), W p l e R s m ([.ref (ad 0), .int a1, .int a2, .int a3]).toArray below meth c H locs 0 0 Q g → W p l e R s m ([.ref (ad 0), .int a1, .int a2, .int a3]).toArray below meth c s.heap locs 0 0 Q g := fun R Q g h => by rw [← hH]; exact h
  refine hW0 _ _ _ ?_
  have hl : lv_has ls 6 [(0, .ref (ad 0)), (1, .int a1), (2, .int a2), (3, .int a3)] := hl
  refine lv_aload_n hx hb d_Mod_way_0 rfl (lv_at hl 0 rfl) ?_
  refine lv_aload_n hx hb d_Mod_way_1 rfl (lv_at hl 0 rfl) ?_
  refine lv_iload_n hx hb d_Mod_way_2 rfl (lv_at hl 1 rfl) ?_
  refine xv (As := [.int a1]) (rest := [.ref (ad 0)]) (C := "PlanRowsModel") ⟨hx, hb, hml, hown, hts⟩ (c_Mod_isRoom l dC dI cI cZ ad x hI a1) (cw_Mod_92 hts rfl rfl ⟨Nat.le_of_ble_eq_true rfl, Nat.le_of_ble_eq_true rfl⟩) hK hN hP 0 rfl rfl rfl rfl hl.1 rfl (Nat.le_of_ble_eq_true rfl) d_Mod_way_3 ⟨Nat.zero_le _, Nat.zero_le _⟩ ?_
  have jn_1 : W p l e { frames := 2, cells := 0, slots := 0, locals := 48 } s m ([.ref (ad 0), .int a1, .int a2, .int a3]).toArray below meth c H locs 0 0 (MQX below (UQ (some (.int (g_Mod_way x a1 a2 a3).1)) (WB (dC, dI) [(cI, .int), (cZ, .boolean)] (wR cI cZ ad (g_Mod_way x a1 a2 a3).2)) A) ([.ref (ad 0), .int a1, .int a2, .int a3]).toArray s 0 0 A) (F0 m 23 ls [.int (if (f_Mod_isRoom x a1) = 0 then 1 else (if (f_Mod_in a2 0 2) = 0 then 1 else 0) : Int32), .ref (ad 0)]) := by
    refine lv_iload_n hx hb d_Mod_way_23 rfl (lv_at hl 3 rfl) ?_
    refine lv_iconst (v := 0) hx hb d_Mod_way_24 (by decide) ?_
    refine lv_sipush (v := 255) hx hb d_Mod_way_25 (by decide) ?_
    refine xs (As := [.int a3, .int 0, .int 255]) (rest := [.int (if (f_Mod_isRoom x a1) = 0 then 1 else (if (f_Mod_in a2 0 2) = 0 then 1 else 0) : Int32), .ref (ad 0)]) ⟨hx, hb, hml, hown, hts⟩ (c_Mod_in l dC dI _ _ a3 0 255) (cw_Mod_84 hts rfl rfl ⟨Nat.le_of_ble_eq_true rfl, Nat.le_of_ble_eq_true rfl⟩) hK hN hP rfl hl.1 rfl (Nat.le_of_ble_eq_true rfl) d_Mod_way_28 ⟨Nat.zero_le _, Nat.zero_le _⟩ ?_
    have jn_4 : W p l e { frames := 2, cells := 0, slots := 0, locals := 48 } s m ([.ref (ad 0), .int a1, .int a2, .int a3]).toArray below meth c H locs 0 0 (MQX below (UQ (some (.int (g_Mod_way x a1 a2 a3).1)) (WB (dC, dI) [(cI, .int), (cZ, .boolean)] (wR cI cZ ad (g_Mod_way x a1 a2 a3).2)) A) ([.ref (ad 0), .int a1, .int a2, .int a3]).toArray s 0 0 A) (F0 m 39 ls [.int (if (f_Mod_in a3 0 255) = 0 then 1 else 0 : Int32), .int (if (f_Mod_isRoom x a1) = 0 then 1 else (if (f_Mod_in a2 0 2) = 0 then 1 else 0) : Int32), .ref (ad 0)]) := by
      refine lv_iconst (v := 0) hx hb d_Mod_way_39 (by decide) ?_
      refine lv_iconst (v := 0) hx hb d_Mod_way_40 (by decide) ?_
      refine x_upd (x_runV (C := "PlanRowsModel") (b := (ad 0)) (As := [.int (if (f_Mod_isRoom x a1) = 0 then 1 else (if (f_Mod_in a2 0 2) = 0 then 1 else 0) : Int32), .int (if (f_Mod_in a3 0 255) = 0 then 1 else 0 : Int32), .int 0, .int 0]) (rest := []) ⟨hx, hb, hml, hown, hts⟩ (u_Mod_throwing l dC dI cI cZ ad hj x hI H.size (if (f_Mod_isRoom x a1) = 0 then 1 else (if (f_Mod_in a2 0 2) = 0 then 1 else 0) : Int32) (if (f_Mod_in a3 0 255) = 0 then 1 else 0 : Int32) 0 0) (cw_Mod_88 hts rfl rfl ⟨Nat.le_of_ble_eq_true rfl, Nat.le_of_ble_eq_true rfl⟩) ⟨PCZ.blind, va_recv hK hP (ci := 9) (q0 := 0) rfl rfl, PCZ.at hK hN hP⟩ rfl rfl hl.1 rfl (lv_room (Nat.le_of_ble_eq_true rfl)) d_Mod_way_41 ⟨Nat.zero_le _, Nat.zero_le _⟩) hS (fun q _ h => hA H hS.1 q h) (fun q h => hA H hS.1 q h) (fun t H1 locs ht hW hB hz1 hk1 hS => ?_)
      obtain ⟨hP, -, -⟩ := hB
      rw [ht] at hP
      generalize H1 = H at hP hS ⊢
      obtain ⟨y_6, hy_6⟩ : ∃ zz, zz = (g_Mod_throwing x (if (f_Mod_isRoom x a1) = 0 then 1 else (if (f_Mod_in a2 0 2) = 0 then 1 else 0) : Int32) (if (f_Mod_in a3 0 255) = 0 then 1 else 0 : Int32) 0 0).2 := ⟨_, rfl⟩
      rw [← hy_6] at hP
      have hty_6 : thr x y_6 := by rw [hy_6]; exact thr_throwing x (if (f_Mod_isRoom x a1) = 0 then 1 else (if (f_Mod_in a2 0 2) = 0 then 1 else 0) : Int32) (if (f_Mod_in a3 0 255) = 0 then 1 else 0 : Int32) 0 0
      have hI : RIn y_6 := ri_thr hty_6 hI0
      have hD : va_D A (wR cI cZ ad y_6) := hDx _
      refine lv_if_eq (tgt := 49) hx hb d_Mod_way_44 (by decide) (fun c_7 => ?_) (fun c_7 => ?_)
      · refine lv_aload_n hx hb d_Mod_way_49 rfl (lv_at hl 0 rfl) ?_
        refine lv_iload_n hx hb d_Mod_way_50 rfl (lv_at hl 1 rfl) ?_
        refine lv_iload_n hx hb d_Mod_way_51 rfl (lv_at hl 3 rfl) ?_
        refine x_upd (x_runV (C := "PlanRowsModel") (b := (ad 0)) (As := [.int a1, .int a3]) (rest := []) ⟨hx, hb, hml, hown, hts⟩ (u_Mod_reckon l dC dI cI cZ ad hj y_6 hI H.size a1 a3 (ix_isRoom (or01 (th0 c_7).1).1 hI0) (thr_M hty_6 hM)) (cw_Mod_107 hts rfl rfl ⟨Nat.le_of_ble_eq_true rfl, Nat.le_of_ble_eq_true rfl⟩) ⟨PCZ.blind, va_recv hK hP (ci := 9) (q0 := 0) rfl rfl, PCZ.at hK hN hP⟩ rfl rfl hl.1 rfl (lv_room (Nat.le_of_ble_eq_true rfl)) d_Mod_way_52 ⟨Nat.zero_le _, Nat.zero_le _⟩) hS (fun q _ h => hA H hS.1 q h) (fun q h => hA H hS.1 q h) (fun t H1 locs ht hW hB hz1 hk1 hS => ?_)
        obtain ⟨hP, -, -⟩ := hB
        rw [ht] at hP
        generalize H1 = H at hP hS ⊢
        obtain ⟨y_8, hy_8⟩ : ∃ zz, zz = (g_Mod_reckon y_6 a1 a3).2 := ⟨_, rfl⟩
        rw [← hy_8] at hP
        have hry_8 := rk_spec y_6 a1 a3 hI (thr_M hty_6 hM) (ix_isRoom (or01 (th0 c_7).1).1 hI0)
        rw [← hy_8] at hry_8
        have hMy_8 : RM y_8 := ls0_M hry_8.1.1 (thr_M hty_6 hM)
        have hI : RIn y_8 := ls0_in hry_8.1.1 hI
        have hD : va_D A (wR cI cZ ad y_8) := hDx _
        refine lv_aload_n hx hb d_Mod_way_55 rfl (lv_at hl 0 rfl) ?_
        refine lv_aload_n hx hb d_Mod_way_56 rfl (lv_at hl 0 rfl) ?_
        refine lv_iload_n hx hb d_Mod_way_57 rfl (lv_at hl 2 rfl) ?_
        refine xv (As := [.int a2]) (rest := [.ref (ad 0)]) (C := "PlanRowsModel") ⟨hx, hb, hml, hown, hts⟩ (c_Mod_nearest l dC dI cI cZ ad y_8 hI a2) (cw_Mod_111 hts rfl rfl ⟨Nat.le_of_ble_eq_true rfl, Nat.le_of_ble_eq_true rfl⟩) hK hN hP 0 rfl rfl rfl rfl hl.1 rfl (Nat.le_of_ble_eq_true rfl) d_Mod_way_58 ⟨Nat.zero_le _, Nat.zero_le _⟩ ?_
        refine va_put (D := (dC, dI)) (ci := 9) (v := .int (f_Mod_nearest y_8 a2)) (ty := .int) (C := R_Mod) (T := F_Mod) (N := 31) hx hb hbw in_Mod t_Mod t_Mod_ok n_Mod hown hK hP hD hS 0 rfl rfl 15 (by decide) (hbw _ w_724) (fun _ h9 => h9) rfl (by decide +kernel) rfl rfl (Nat.le_of_ble_eq_true rfl) d_Mod_way_61 (fun H locs hP hD hS => ?_)
        rw [wR_s_m_end] at hP hD
        refine lv_aload_n hx hb d_Mod_way_64 rfl (lv_at hl 0 rfl) ?_
        refine lv_iconst (v := 0) hx hb d_Mod_way_65 (by decide) ?_
        refine va_put (D := (dC, dI)) (ci := 9) (v := .int 0) (ty := .int) (C := R_Mod) (T := F_Mod) (N := 31) hx hb hbw in_Mod t_Mod t_Mod_ok n_Mod hown hK hP hD hS 0 rfl rfl 13 (by decide) (hbw _ w_722) (fun _ h9 => h9) rfl (by decide +kernel) rfl rfl (Nat.le_of_ble_eq_true rfl) d_Mod_way_66 (fun H locs hP hD hS => ?_)
        rw [wR_s_m_steps] at hP hD
        refine lv_aload_n hx hb d_Mod_way_69 rfl (lv_at hl 0 rfl) ?_
        refine lv_iconst (v := 0) hx hb d_Mod_way_70 (by decide) ?_
        refine va_put (D := (dC, dI)) (ci := 9) (v := .int 0) (ty := .int) (C := R_Mod) (T := F_Mod) (N := 31) hx hb hbw in_Mod t_Mod t_Mod_ok n_Mod hown hK hP hD hS 0 rfl rfl 14 (by decide) (hbw _ w_723) (fun _ h9 => h9) rfl (by decide +kernel) rfl rfl (Nat.le_of_ble_eq_true rfl) d_Mod_way_71 (fun H locs hP hD hS => ?_)
        rw [wR_s_m_stairs] at hP hD
        refine lv_aload_n hx hb d_Mod_way_74 rfl (lv_at hl 0 rfl) ?_
        refine va_get (D := (dC, dI)) (ci := 9) (v := .int (q_m_end (s_m_stairs (s_m_steps (s_m_end y_8 (f_Mod_nearest y_8 a2)) 0) 0))) (C := R_Mod) (T := F_Mod) (N := 31) hx hb hbw in_Mod hown hK hP 0 rfl rfl 15 (by decide) (hbw _ w_724) (fun _ h9 => h9) rfl d_Mod_way_75 ?_
        refine lv_if_ge (tgt := 83) hx hb d_Mod_way_78 (by decide) (fun c_9 => ?_) (fun c_9 => ?_)
        · refine lv_aload_n hx hb d_Mod_way_83 rfl (lv_at hl 0 rfl) ?_
          refine lv_aload_n hx hb d_Mod_way_84 rfl (lv_at hl 0 rfl) ?_
          refine va_get (D := (dC, dI)) (ci := 9) (v := .ref (ad 9)) (C := R_Mod) (T := F_Mod) (N := 31) hx hb hbw in_Mod hown hK hP 0 rfl rfl 11 (by decide) (hbw _ w_720) (fun _ h9 => h9) rfl d_Mod_way_85 ?_
          refine lv_aload_n hx hb d_Mod_way_88 rfl (lv_at hl 0 rfl) ?_
          refine va_get (D := (dC, dI)) (ci := 9) (v := .int (q_m_end (s_m_stairs (s_m_steps (s_m_end y_8 (f_Mod_nearest y_8 a2)) 0) 0))) (C := R_Mod) (T := F_Mod) (N := 31) hx hb hbw in_Mod hown hK hP 0 rfl rfl 15 (by decide) (hbw _ w_724) (fun _ h9 => h9) rfl d_Mod_way_89 ?_
          refine va_iald hx hb hK hP 9 0 rfl rfl (by have h9 := c_9; simp only [qv_end, qv_steps, qv_stairs] at h9 ⊢; exact nr_ix hI h9) d_Mod_way_92 ?_
          refine lv_bipush (v := 100) hx hb d_Mod_way_93 (by decide) ?_
          refine lv_irem hx hb d_Mod_way_95 (by decide) ?_
          refine va_put (D := (dC, dI)) (ci := 9) (v := .int (((q_m_least (s_m_stairs (s_m_steps (s_m_end y_8 (f_Mod_nearest y_8 a2)) 0) 0)) (q_m_end (s_m_stairs (s_m_steps (s_m_end y_8 (f_Mod_nearest y_8 a2)) 0) 0)).toNatClampNeg) - ((q_m_least (s_m_stairs (s_m_steps (s_m_end y_8 (f_Mod_nearest y_8 a2)) 0) 0)) (q_m_end (s_m_stairs (s_m_steps (s_m_end y_8 (f_Mod_nearest y_8 a2)) 0) 0)).toNatClampNeg) / 100 * 100)) (ty := .int) (C := R_Mod) (T := F_Mod) (N := 31) hx hb hbw in_Mod t_Mod t_Mod_ok n_Mod hown hK hP hD hS 0 rfl rfl 14 (by decide) (hbw _ w_723) (fun _ h9 => h9) rfl (by decide +kernel) rfl rfl (Nat.le_of_ble_eq_true rfl) d_Mod_way_96 (fun H locs hP hD hS => ?_)
          rw [wR_s_m_stairs] at hP hD
          refine lv_aload_n hx hb d_Mod_way_99 rfl (lv_at hl 0 rfl) ?_
          refine va_get (D := (dC, dI)) (ci := 9) (v := .int (q_m_end (s_m_stairs (s_m_stairs (s_m_steps (s_m_end y_8 (f_Mod_nearest y_8 a2)) 0) 0) (((q_m_least (s_m_stairs (s_m_steps (s_m_end y_8 (f_Mod_nearest y_8 a2)) 0) 0)) (q_m_end (s_m_stairs (s_m_steps (s_m_end y_8 (f_Mod_nearest y_8 a2)) 0) 0)).toNatClampNeg) - ((q_m_least (s_m_stairs (s_m_steps (s_m_end y_8 (f_Mod_nearest y_8 a2)) 0) 0)) (q_m_end (s_m_stairs (s_m_steps (s_m_end y_8 (f_Mod_nearest y_8 a2)) 0) 0)).toNatClampNeg) / 100 * 100)))) (C := R_Mod) (T := F_Mod) (N := 31) hx hb hbw in_Mod hown hK hP 0 rfl rfl 15 (by decide) (hbw _ w_724) (fun _ h9 => h9) rfl d_Mod_way_100 ?_
          refine lv_istore (lv' := [(4, .int (q_m_end (s_m_stairs (s_m_stairs (s_m_steps (s_m_end y_8 (f_Mod_nearest y_8 a2)) 0) 0) (((q_m_least (s_m_stairs (s_m_steps (s_m_end y_8 (f_Mod_nearest y_8 a2)) 0) 0)) (q_m_end (s_m_stairs (s_m_steps (s_m_end y_8 (f_Mod_nearest y_8 a2)) 0) 0)).toNatClampNeg) - ((q_m_least (s_m_stairs (s_m_steps (s_m_end y_8 (f_Mod_nearest y_8 a2)) 0) 0)) (q_m_end (s_m_stairs (s_m_steps (s_m_end y_8 (f_Mod_nearest y_8 a2)) 0) 0)).toNatClampNeg) / 100 * 100)))), (0, .ref (ad 0)), (1, .int a1), (2, .int a2), (3, .int a3)]) hx hb d_Mod_way_103 hl (by decide) rfl (fun ls hl => ?_)
          have hce : 0 ≤ f_Mod_nearest y_8 a2 := by have h9 := c_9; simp only [qv_end, qv_steps, qv_stairs] at h9; exact h9
          have hpos := nr_pos (x := y_8) hI (a := a2) hce
          have hpr := pr_of (ri_thr hty_6 hI0) (thr_M hty_6 hM) (vp_in_iff.mp (ix_isRoom (or01 (th0 c_7).1).1 hI0)).1 hry_8.1 hry_8.2.1 hry_8.2.2
          obtain ⟨y_10, hy_10⟩ : ∃ zz, zz = s_m_stairs (s_m_stairs (s_m_steps (s_m_end y_8 (f_Mod_nearest y_8 a2)) 0) 0) (((q_m_least (s_m_stairs (s_m_steps (s_m_end y_8 (f_Mod_nearest y_8 a2)) 0) 0)) (q_m_end (s_m_stairs (s_m_steps (s_m_end y_8 (f_Mod_nearest y_8 a2)) 0) 0)).toNatClampNeg) - ((q_m_least (s_m_stairs (s_m_steps (s_m_end y_8 (f_Mod_nearest y_8 a2)) 0) 0)) (q_m_end (s_m_stairs (s_m_steps (s_m_end y_8 (f_Mod_nearest y_8 a2)) 0) 0)).toNatClampNeg) / 100 * 100) := ⟨_, rfl⟩
          rw [← hy_10] at hP
          have hD : va_D A (wR cI cZ ad y_10) := hDx _
          have hIB : RIn y_10 := by rw [hy_10]; exact ri_stairs (ri_stairs (ri_steps (ri_end hI)))
          have hMB : RM y_10 := by rw [hy_10]; exact rm_stairs (rm_stairs (rm_steps (rm_end hMy_8)))
          have hpB : prR y_10 a1 := by rw [hy_10]; exact pr_stairs (pr_stairs (pr_steps (pr_end hpr)))
          have hqB : q_m_least y_10 = q_m_least y_8 ∧ q_m_rooms y_10 = q_m_rooms y_8 ∧ q_m_end y_10 = f_Mod_nearest y_8 a2 ∧ q_m_steps y_10 = 0 := by rw [hy_10]; simp only [qv_end, qv_steps, qv_stairs, and_self]
          have hbB : ∀ j : Nat, j < 40 → 0 ≤ (q_m_least y_10 j).toInt ∧ (q_m_least y_10 j).toInt ≤ 100000000 := by rw [hqB.1]; exact hry_8.1.2
          have hvB : wvI y_10 (q_m_end y_10) y_10 40 := wv_0 hI hqB hpos
          have hxB : vp_in (q_m_end y_10) 40 := by rw [hqB.2.2.1]; exact nr_ix (x := y_8) hI (a := a2) hce
          have hl : lv_has ls 6 [(4, .int (q_m_end y_10)), (0, .ref (ad 0)), (1, .int a1), (2, .int a2), (3, .int a3)] := by rw [hy_10]; exact hl
          have loop : ∀ (k : Nat) (u : Int32) (z : RT) (ls : Array Slot) (H : Heap) (locs : List Loc), wvI y_10 u z k → wz y_10 z → g_Mod_way x a1 a2 a3 = L_Mod_way a1 a2 a3 k u z → va_P (dC, dI) clsA (wR cI cZ ad z) H → va_S A s.heap H locs → lv_has ls 6 [(4, .int u), (0, .ref (ad 0)), (1, .int a1), (2, .int a2), (3, .int a3)] → W p l e { frames := 2, cells := 0, slots := 0, locals := 48 } s m ([.ref (ad 0), .int a1, .int a2, .int a3]).toArray below meth c H locs 0 0 (MQX below (UQ (some (.int (g_Mod_way x a1 a2 a3).1)) (WB (dC, dI) [(cI, .int), (cZ, .boolean)] (wR cI cZ ad (g_Mod_way x a1 a2 a3).2)) A) ([.ref (ad 0), .int a1, .int a2, .int a3]).toArray s 0 0 A) (F0 m 105 ls []) := by
            intro k
            induction k with
            | zero =>
              intro u z ls H locs hi hz hq hP hS hl
              exact absurd hi.2.2.2.2.2 (by omega)
            | succ k ih =>
              intro u z ls H locs hi hz hq hP hS hl
              have hq := hq.trans (L_Mod_way_s a1 a2 a3 k u z)
              have hI := wz_in hz hIB hi
              have hD := hDx z
              refine lv_iload hx hb d_Mod_way_105 (lv_at hl 0 rfl) ?_
              refine lv_iload_n hx hb d_Mod_way_107 rfl (lv_at hl 2 rfl) ?_
              refine lv_icmp_eq (tgt := 174) hx hb d_Mod_way_108 (by decide) (fun c_11 => ?_) (fun c_11 => ?_)
              · refine lv_aload_n hx hb d_Mod_way_174 rfl (lv_at hl 1 rfl) ?_
                refine va_get (D := (dC, dI)) (ci := 9) (v := .ref (ad 9)) (C := R_Mod) (T := F_Mod) (N := 31) hx hb hbw in_Mod hown hK hP 0 rfl rfl 11 (by decide) (hbw _ w_720) (fun _ h9 => h9) rfl d_Mod_way_175 ?_
                refine lv_aload_n hx hb d_Mod_way_178 rfl (lv_at hl 1 rfl) ?_
                refine va_get (D := (dC, dI)) (ci := 9) (v := .int (q_m_end z)) (C := R_Mod) (T := F_Mod) (N := 31) hx hb hbw in_Mod hown hK hP 0 rfl rfl 15 (by decide) (hbw _ w_724) (fun _ h9 => h9) rfl d_Mod_way_179 ?_
                refine va_iald hx hb hK hP 9 0 rfl rfl (by rw [(wz_into hz u).2.2.1]; exact hxB) d_Mod_way_182 ?_
                refine lv_bipush (v := 100) hx hb d_Mod_way_183 (by decide) ?_
                refine lv_idiv hx hb d_Mod_way_185 (by decide) ?_
                have hg : g_Mod_way x a1 a2 a3 = (((q_m_least z) (q_m_end z).toNatClampNeg) / 100, z) := by rw [hq, if_pos c_11]
                exact W.toX (W.iret (v := ((q_m_least z) (q_m_end z).toNatClampNeg) / 100) hx hb hr (fun t ht hW => ⟨by rw [hg, pr_fst], ⟨by rw [ht, hg, pr_snd]; exact hP, va_K.moved hW.alike hK, hN.warm hW⟩, hS.F ht⟩) hS.2.2 d_Mod_way_186)
              · refine lv_aload_n hx hb d_Mod_way_111 rfl (lv_at hl 1 rfl) ?_
                refine lv_iload hx hb d_Mod_way_112 (lv_at hl 0 rfl) ?_
                refine xv (As := [.int u]) (rest := []) (C := "PlanRowsModel") ⟨hx, hb, hml, hown, hts⟩ (c_Mod_into l dC dI cI cZ ad z hI u (wv_u hIB hi)) (cw_Mod_120 hts rfl rfl ⟨Nat.le_of_ble_eq_true rfl, Nat.le_of_ble_eq_true rfl⟩) hK hN hP 0 rfl rfl rfl rfl hl.1 rfl (Nat.le_of_ble_eq_true rfl) d_Mod_way_114 ⟨Nat.zero_le _, Nat.zero_le _⟩ ?_
                refine lv_istore (lv' := [(5, .int (f_Mod_into z u)), (4, .int u), (0, .ref (ad 0)), (1, .int a1), (2, .int a2), (3, .int a3)]) hx hb d_Mod_way_117 hl (by decide) rfl (fun ls hl => ?_)
                refine lv_aload_n hx hb d_Mod_way_119 rfl (lv_at hl 2 rfl) ?_
                refine va_get (D := (dC, dI)) (ci := 9) (v := .ref (ad 10)) (C := R_Mod) (T := F_Mod) (N := 31) hx hb hbw in_Mod hown hK hP 0 rfl rfl 12 (by decide) (hbw _ w_721) (fun _ h9 => h9) rfl d_Mod_way_120 ?_
                refine lv_aload_n hx hb d_Mod_way_123 rfl (lv_at hl 2 rfl) ?_
                refine va_get (D := (dC, dI)) (ci := 9) (v := .int (q_m_steps z)) (C := R_Mod) (T := F_Mod) (N := 31) hx hb hbw in_Mod hown hK hP 0 rfl rfl 13 (by decide) (hbw _ w_722) (fun _ h9 => h9) rfl d_Mod_way_124 ?_
                refine lv_iload hx hb d_Mod_way_127 (lv_at hl 0 rfl) ?_
                refine va_iast hx hb hK hP hD hS 10 0 rfl rfl (wv_st hi) d_Mod_way_129 (fun H locs hP hD hS => ?_)
                rw [wR_s_m_way] at hP hD
                refine lv_aload_n hx hb d_Mod_way_130 rfl (lv_at hl 2 rfl) ?_
                refine lv_dup hx hb d_Mod_way_131 rfl ?_
                refine va_get (D := (dC, dI)) (ci := 9) (v := .int (q_m_steps (s_m_way z (upd (q_m_way z) (q_m_steps z).toNatClampNeg (f_Mod_into z u))))) (C := R_Mod) (T := F_Mod) (N := 31) hx hb hbw in_Mod hown hK hP 0 rfl rfl 13 (by decide) (hbw _ w_722) (fun _ h9 => h9) rfl d_Mod_way_132 ?_
                refine lv_iconst (v := 1) hx hb d_Mod_way_135 (by decide) ?_
                refine lv_iadd hx hb d_Mod_way_136 ?_
                refine va_put (D := (dC, dI)) (ci := 9) (v := .int ((q_m_steps (s_m_way z (upd (q_m_way z) (q_m_steps z).toNatClampNeg (f_Mod_into z u)))) + 1)) (ty := .int) (C := R_Mod) (T := F_Mod) (N := 31) hx hb hbw in_Mod t_Mod t_Mod_ok n_Mod hown hK hP hD hS 0 rfl rfl 13 (by decide) (hbw _ w_722) (fun _ h9 => h9) rfl (by decide +kernel) rfl rfl (Nat.le_of_ble_eq_true rfl) d_Mod_way_137 (fun H locs hP hD hS => ?_)
                rw [wR_s_m_steps] at hP hD
                refine lv_aload_n hx hb d_Mod_way_140 rfl (lv_at hl 2 rfl) ?_
                refine va_get (D := (dC, dI)) (ci := 9) (v := .ref (ad 4)) (C := R_Mod) (T := F_Mod) (N := 31) hx hb hbw in_Mod hown hK hP 0 rfl rfl 6 (by decide) (hbw _ w_715) (fun _ h9 => h9) rfl d_Mod_way_141 ?_
                refine lv_iload hx hb d_Mod_way_144 (lv_at hl 0 rfl) ?_
                refine va_iald hx hb hK hP 4 0 rfl rfl (dv_in (wz_in hz hIB hi) (wv_dv hz hIB hpB hi c_11)) d_Mod_way_146 ?_
                refine lv_iload hx hb d_Mod_way_147 (lv_at hl 1 rfl) ?_
                have jn_12 : W p l e { frames := 2, cells := 0, slots := 0, locals := 48 } s m ([.ref (ad 0), .int a1, .int a2, .int a3]).toArray below meth c H locs 0 0 (MQX below (UQ (some (.int (g_Mod_way x a1 a2 a3).1)) (WB (dC, dI) [(cI, .int), (cZ, .boolean)] (wR cI cZ ad (g_Mod_way x a1 a2 a3).2)) A) ([.ref (ad 0), .int a1, .int a2, .int a3]).toArray s 0 0 A) (F0 m 169 ls [.int (if ((q_m_from (s_m_steps (s_m_way z (upd (q_m_way z) (q_m_steps z).toNatClampNeg (f_Mod_into z u))) ((q_m_steps (s_m_way z (upd (q_m_way z) (q_m_steps z).toNatClampNeg (f_Mod_into z u)))) + 1))) (f_Mod_into z u).toNatClampNeg) = u then (q_m_to (s_m_steps (s_m_way z (upd (q_m_way z) (q_m_steps z).toNatClampNeg (f_Mod_into z u))) ((q_m_steps (s_m_way z (upd (q_m_way z) (q_m_steps z).toNatClampNeg (f_Mod_into z u)))) + 1))) (f_Mod_into z u).toNatClampNeg else (q_m_from (s_m_steps (s_m_way z (upd (q_m_way z) (q_m_steps z).toNatClampNeg (f_Mod_into z u))) ((q_m_steps (s_m_way z (upd (q_m_way z) (q_m_steps z).toNatClampNeg (f_Mod_into z u)))) + 1))) (f_Mod_into z u).toNatClampNeg : Int32)]) := by
                  refine lv_istore (lv' := [(4, .int (if ((q_m_from (s_m_steps (s_m_way z (upd (q_m_way z) (q_m_steps z).toNatClampNeg (f_Mod_into z u))) ((q_m_steps (s_m_way z (upd (q_m_way z) (q_m_steps z).toNatClampNeg (f_Mod_into z u)))) + 1))) (f_Mod_into z u).toNatClampNeg) = u then (q_m_to (s_m_steps (s_m_way z (upd (q_m_way z) (q_m_steps z).toNatClampNeg (f_Mod_into z u))) ((q_m_steps (s_m_way z (upd (q_m_way z) (q_m_steps z).toNatClampNeg (f_Mod_into z u)))) + 1))) (f_Mod_into z u).toNatClampNeg else (q_m_from (s_m_steps (s_m_way z (upd (q_m_way z) (q_m_steps z).toNatClampNeg (f_Mod_into z u))) ((q_m_steps (s_m_way z (upd (q_m_way z) (q_m_steps z).toNatClampNeg (f_Mod_into z u)))) + 1))) (f_Mod_into z u).toNatClampNeg : Int32)), (5, .int (f_Mod_into z u)), (0, .ref (ad 0)), (1, .int a1), (2, .int a2), (3, .int a3)]) hx hb d_Mod_way_169 hl (by decide) rfl (fun ls hl => ?_)
                  refine lv_goto (tgt := 105) hx hb d_Mod_way_171 (by decide) ?_
                  exact ih (if ((q_m_from (s_m_steps (s_m_way z (upd (q_m_way z) (q_m_steps z).toNatClampNeg (f_Mod_into z u))) ((q_m_steps (s_m_way z (upd (q_m_way z) (q_m_steps z).toNatClampNeg (f_Mod_into z u)))) + 1))) (f_Mod_into z u).toNatClampNeg) = u then (q_m_to (s_m_steps (s_m_way z (upd (q_m_way z) (q_m_steps z).toNatClampNeg (f_Mod_into z u))) ((q_m_steps (s_m_way z (upd (q_m_way z) (q_m_steps z).toNatClampNeg (f_Mod_into z u)))) + 1))) (f_Mod_into z u).toNatClampNeg else (q_m_from (s_m_steps (s_m_way z (upd (q_m_way z) (q_m_steps z).toNatClampNeg (f_Mod_into z u))) ((q_m_steps (s_m_way z (upd (q_m_way z) (q_m_steps z).toNatClampNeg (f_Mod_into z u)))) + 1))) (f_Mod_into z u).toNatClampNeg : Int32) (s_m_steps (s_m_way z (upd (q_m_way z) (q_m_steps z).toNatClampNeg (f_Mod_into z u))) ((q_m_steps (s_m_way z (upd (q_m_way z) (q_m_steps z).toNatClampNeg (f_Mod_into z u)))) + 1)) ls H locs (by have h9 := wv_step hz hIB hMB hbB hpB hi c_11 (upd (q_m_way z) (q_m_steps z).toNatClampNeg (f_Mod_into z u)); rw [← (wz_into hz u).1] at h9; rw [wv_oth hz u (f_Mod_into z u)] at h9; exact h9) (wz_set hz _ _) (by rw [hq, if_neg c_11]) hP hS (lv_sub hl [0, 2, 3, 4, 5] rfl)
                refine lv_icmp_ne (tgt := 162) hx hb d_Mod_way_149 (by decide) (fun c_13 => ?_) (fun c_13 => ?_)
                · refine lv_aload_n hx hb d_Mod_way_162 rfl (lv_at hl 2 rfl) ?_
                  refine va_get (D := (dC, dI)) (ci := 9) (v := .ref (ad 4)) (C := R_Mod) (T := F_Mod) (N := 31) hx hb hbw in_Mod hown hK hP 0 rfl rfl 6 (by decide) (hbw _ w_715) (fun _ h9 => h9) rfl d_Mod_way_163 ?_
                  refine lv_iload hx hb d_Mod_way_166 (lv_at hl 0 rfl) ?_
                  refine va_iald hx hb hK hP 4 0 rfl rfl (dv_in (wz_in hz hIB hi) (wv_dv hz hIB hpB hi c_11)) d_Mod_way_168 ?_
                  rw [show (if ((q_m_from (s_m_steps (s_m_way z (upd (q_m_way z) (q_m_steps z).toNatClampNeg (f_Mod_into z u))) ((q_m_steps (s_m_way z (upd (q_m_way z) (q_m_steps z).toNatClampNeg (f_Mod_into z u)))) + 1))) (f_Mod_into z u).toNatClampNeg) = u then (q_m_to (s_m_steps (s_m_way z (upd (q_m_way z) (q_m_steps z).toNatClampNeg (f_Mod_into z u))) ((q_m_steps (s_m_way z (upd (q_m_way z) (q_m_steps z).toNatClampNeg (f_Mod_into z u)))) + 1))) (f_Mod_into z u).toNatClampNeg else (q_m_from (s_m_steps (s_m_way z (upd (q_m_way z) (q_m_steps z).toNatClampNeg (f_Mod_into z u))) ((q_m_steps (s_m_way z (upd (q_m_way z) (q_m_steps z).toNatClampNeg (f_Mod_into z u)))) + 1))) (f_Mod_into z u).toNatClampNeg : Int32) = (q_m_from (s_m_steps (s_m_way z (upd (q_m_way z) (q_m_steps z).toNatClampNeg (f_Mod_into z u))) ((q_m_steps (s_m_way z (upd (q_m_way z) (q_m_steps z).toNatClampNeg (f_Mod_into z u)))) + 1))) (f_Mod_into z u).toNatClampNeg from by rw [if_neg c_13]] at jn_12
                  exact jn_12
                · refine lv_aload_n hx hb d_Mod_way_152 rfl (lv_at hl 2 rfl) ?_
                  refine va_get (D := (dC, dI)) (ci := 9) (v := .ref (ad 5)) (C := R_Mod) (T := F_Mod) (N := 31) hx hb hbw in_Mod hown hK hP 0 rfl rfl 7 (by decide) (hbw _ w_716) (fun _ h9 => h9) rfl d_Mod_way_153 ?_
                  refine lv_iload hx hb d_Mod_way_156 (lv_at hl 0 rfl) ?_
                  refine va_iald hx hb hK hP 5 0 rfl rfl (dv_in (wz_in hz hIB hi) (wv_dv hz hIB hpB hi c_11)) d_Mod_way_158 ?_
                  refine lv_goto (tgt := 169) hx hb d_Mod_way_159 (by decide) ?_
                  rw [show (if ((q_m_from (s_m_steps (s_m_way z (upd (q_m_way z) (q_m_steps z).toNatClampNeg (f_Mod_into z u))) ((q_m_steps (s_m_way z (upd (q_m_way z) (q_m_steps z).toNatClampNeg (f_Mod_into z u)))) + 1))) (f_Mod_into z u).toNatClampNeg) = u then (q_m_to (s_m_steps (s_m_way z (upd (q_m_way z) (q_m_steps z).toNatClampNeg (f_Mod_into z u))) ((q_m_steps (s_m_way z (upd (q_m_way z) (q_m_steps z).toNatClampNeg (f_Mod_into z u)))) + 1))) (f_Mod_into z u).toNatClampNeg else (q_m_from (s_m_steps (s_m_way z (upd (q_m_way z) (q_m_steps z).toNatClampNeg (f_Mod_into z u))) ((q_m_steps (s_m_way z (upd (q_m_way z) (q_m_steps z).toNatClampNeg (f_Mod_into z u)))) + 1))) (f_Mod_into z u).toNatClampNeg : Int32) = (q_m_to (s_m_steps (s_m_way z (upd (q_m_way z) (q_m_steps z).toNatClampNeg (f_Mod_into z u))) ((q_m_steps (s_m_way z (upd (q_m_way z) (q_m_steps z).toNatClampNeg (f_Mod_into z u)))) + 1))) (f_Mod_into z u).toNatClampNeg from by rw [if_pos c_13]] at jn_12
                  exact jn_12
          exact loop 40 (q_m_end y_10) y_10 ls H locs hvB (wz_rf _) (by have gy_6 := hy_6.symm; subst gy_6; have gy_8 := hy_8.symm; subst gy_8; have gy_10 := hy_10.symm; subst gy_10; unfold g_Mod_way; rw [if_pos c_7, if_pos c_9]) hP hS (lv_sub hl [0, 1, 2, 3, 4] rfl)
        · refine lv_iconst (v := (-1)) hx hb d_Mod_way_81 (by decide) ?_
          have gy_6 := hy_6.symm; subst gy_6
          have gy_8 := hy_8.symm; subst gy_8
          have hg : g_Mod_way x a1 a2 a3 = ((-1), s_m_stairs (s_m_steps (s_m_end ((g_Mod_reckon ((g_Mod_throwing x (if (f_Mod_isRoom x a1) = 0 then 1 else (if (f_Mod_in a2 0 2) = 0 then 1 else 0) : Int32) (if (f_Mod_in a3 0 255) = 0 then 1 else 0 : Int32) 0 0).2) a1 a3).2) (f_Mod_nearest ((g_Mod_reckon ((g_Mod_throwing x (if (f_Mod_isRoom x a1) = 0 then 1 else (if (f_Mod_in a2 0 2) = 0 then 1 else 0) : Int32) (if (f_Mod_in a3 0 255) = 0 then 1 else 0 : Int32) 0 0).2) a1 a3).2) a2)) 0) 0) := by unfold g_Mod_way; rw [if_pos c_7, if_neg c_9]
          exact W.toX (W.iret (v := (-1)) hx hb hr (fun t ht hW => ⟨by rw [hg, pr_fst], ⟨by rw [ht, hg, pr_snd]; exact hP, va_K.moved hW.alike hK, hN.warm hW⟩, hS.F ht⟩) hS.2.2 d_Mod_way_82)
      · refine lv_iconst (v := 0) hx hb d_Mod_way_47 (by decide) ?_
        have gy_6 := hy_6.symm; subst gy_6
        have hg : g_Mod_way x a1 a2 a3 = (0, ((g_Mod_throwing x (if (f_Mod_isRoom x a1) = 0 then 1 else (if (f_Mod_in a2 0 2) = 0 then 1 else 0) : Int32) (if (f_Mod_in a3 0 255) = 0 then 1 else 0 : Int32) 0 0).2)) := by unfold g_Mod_way; rw [if_neg c_7]
        exact W.toX (W.iret (v := 0) hx hb hr (fun t ht hW => ⟨by rw [hg, pr_fst], ⟨by rw [ht, hg, pr_snd]; exact hP, va_K.moved hW.alike hK, hN.warm hW⟩, hS.F ht⟩) hS.2.2 d_Mod_way_48)
    refine lv_if_ne (tgt := 38) hx hb d_Mod_way_31 (by decide) (fun c_5 => ?_) (fun c_5 => ?_)
    · refine lv_iconst (v := 0) hx hb d_Mod_way_38 (by decide) ?_
      rw [show (if (f_Mod_in a3 0 255) = 0 then 1 else 0 : Int32) = 0 from by rw [if_neg c_5]] at jn_4
      exact jn_4
    · refine lv_iconst (v := 1) hx hb d_Mod_way_34 (by decide) ?_
      refine lv_goto (tgt := 39) hx hb d_Mod_way_35 (by decide) ?_
      rw [show (if (f_Mod_in a3 0 255) = 0 then 1 else 0 : Int32) = 1 from by rw [if_pos c_5]] at jn_4
      exact jn_4
  refine lv_if_eq (tgt := 18) hx hb d_Mod_way_6 (by decide) (fun c_2 => ?_) (fun c_2 => ?_)
  · refine lv_iconst (v := 1) hx hb d_Mod_way_18 (by decide) ?_
    refine lv_goto (tgt := 23) hx hb d_Mod_way_19 (by decide) ?_
    rw [show (if (f_Mod_isRoom x a1) = 0 then 1 else (if (f_Mod_in a2 0 2) = 0 then 1 else 0) : Int32) = 1 from by rw [if_pos c_2]] at jn_1
    exact jn_1
  · refine lv_iload_n hx hb d_Mod_way_9 rfl (lv_at hl 2 rfl) ?_
    refine lv_iconst (v := 0) hx hb d_Mod_way_10 (by decide) ?_
    refine lv_iconst (v := 2) hx hb d_Mod_way_11 (by decide) ?_
    refine xs (As := [.int a2, .int 0, .int 2]) (rest := [.ref (ad 0)]) ⟨hx, hb, hml, hown, hts⟩ (c_Mod_in l dC dI _ _ a2 0 2) (cw_Mod_84 hts rfl rfl ⟨Nat.le_of_ble_eq_true rfl, Nat.le_of_ble_eq_true rfl⟩) hK hN hP rfl hl.1 rfl (Nat.le_of_ble_eq_true rfl) d_Mod_way_12 ⟨Nat.zero_le _, Nat.zero_le _⟩ ?_
    refine lv_if_ne (tgt := 22) hx hb d_Mod_way_15 (by decide) (fun c_3 => ?_) (fun c_3 => ?_)
    · refine lv_iconst (v := 0) hx hb d_Mod_way_22 (by decide) ?_
      rw [show (if (f_Mod_isRoom x a1) = 0 then 1 else (if (f_Mod_in a2 0 2) = 0 then 1 else 0) : Int32) = 0 from by rw [if_neg c_2, if_neg c_3]] at jn_1
      exact jn_1
    · refine lv_iconst (v := 1) hx hb d_Mod_way_18 (by decide) ?_
      refine lv_goto (tgt := 23) hx hb d_Mod_way_19 (by decide) ?_
      rw [show (if (f_Mod_isRoom x a1) = 0 then 1 else (if (f_Mod_in a2 0 2) = 0 then 1 else 0) : Int32) = 1 from by rw [if_neg c_2, if_pos c_3]] at jn_1
      exact jn_1
