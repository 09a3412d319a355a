theorem thr_rf (x : RT) : thr x x := ⟨q_m_thrown x, rfl⟩
theorem ix_31 {i : Int32} {k : Nat} (hi : 0 ≤ i.toInt ∧ i.toInt ≤ 31 ∧ 31 - i.toInt < ((k + 1 : Nat) : Int)) (hc : ¬ 30 < i) : vp_in i 31 := vp_in_iff.mpr (by
  rw [Int32.lt_iff_toInt_lt] at hc
  have h2 : (30 : Int32).toInt = 30 := rfl
  omega)
theorem ix_gez {x z : RT} {i : Int32} {k : Nat} (hz : thr x z) (hi : 0 ≤ i.toInt ∧ i.toInt ≤ (q_m_rows x).toInt ∧ (q_m_rows x).toInt - i.toInt < ((k + 1 : Nat) : Int)) (hc : ¬ q_m_rows z ≤ i) : (0 ≤ i.toInt ∧ i.toInt < (q_m_rows z).toInt) ∧ ¬ q_m_rows x ≤ i := by
  rw [(thr_q hz).2.2.2.1] at hc ⊢
  refine ⟨⟨hi.1, ?_⟩, hc⟩
  rw [Int32.le_iff_toInt_le] at hc
  omega
theorem ix_row {x : RT} {i : Int32} (hI : RIn x) (h : 0 ≤ i.toInt ∧ i.toInt < (q_m_rows x).toInt) : vp_in i 60 := vp_in_iff.mpr (by have := hI.2.2.2.1.2; omega)
theorem ix_rowRoom {x : RT} {i : Int32} (hI : RIn x) (h : 0 ≤ i.toInt ∧ i.toInt < (q_m_rows x).toInt) : vp_in (q_m_rowRoom x i.toNatClampNeg) 40 := vp_in_iff.mpr (by
  have h1 := hI.2.2.2.2.2.2.2 i.toNatClampNeg (by rw [cl_nn h.1]; exact h.2)
  have := hI.1
  omega)
def f_Mod_squareTo (x : RT) (a1 a2 a3 a4 : Int32) : Int64 := ((((((q_m_windowX x) a1.toNatClampNeg) - a2).toInt64) * ((((q_m_windowX x) a1.toNatClampNeg) - a2).toInt64)) + (((((q_m_windowY x) a1.toNatClampNeg) - a3).toInt64) * ((((q_m_windowY x) a1.toNatClampNeg) - a3).toInt64))) + (((((q_m_windowZ x) a1.toNatClampNeg) - a4).toInt64) * ((((q_m_windowZ x) a1.toNatClampNeg) - a4).toInt64))
set_option maxHeartbeats 400000 in
set_option maxRecDepth 100000 in
theorem c_Mod_squareTo (l : Launch) (dC : Nat → ClassId) (dI : Nat → Nat → Nat) (cI cZ : ClassId) (ad : Nat → Nat) (x : RT) (hI : RIn x) (a1 a2 a3 a4 : Int32) (hw1 : vp_in a1 30) : MX l y_Mod_squareTo (Cond.code y_Mod_squareTo b_Mod_squareTo 11 (some .long) :: BW) { frames := 0, cells := 0, slots := 0, locals := 0 } (PC (dC, dI) [(cI, .int), (cZ, .boolean)] (wR cI cZ ad x) [.ref (ad 0), .int a1, .int a2, .int a3, .int a4]) (PQ (some (.long (f_Mod_squareTo x a1 a2 a3 a4)))) 0 0 (fun _ => False) := by
  refine MX.ofW (cc := b_Mod_squareTo) (maxL := 11) (ret := (some .long)) (by decide) rfl ?_
  intro p e s m args below meth c s₁ B hml hex hv
  obtain ⟨rfl, hP, hK, hN⟩ := hv
  have hx := B.exec
  have hb := B.bytes
  have hr := B.returns
  have hts := atoms_spec (ws := Cond.code y_Mod_squareTo b_Mod_squareTo 11 (some .long) :: BW) B.pre
  have hbw : ∀ w ∈ BW, w.before ([.ref (ad 0), .int a1, .int a2, .int a3, .int a4]).toArray s = true := fun w h => hts w (List.mem_cons_of_mem _ h)
  have hown : s.vm.findClass "PlanRowsModel" = some m.cls := findClass_of_methodNamed B.named
  have hlocks := B.notSynchronized
  have hl := lv_entry ([.ref (ad 0), .int a1, .int a2, .int a3, .int a4]) (n := 11) (Nat.le_of_ble_eq_true rfl)
  rw [lg_entry_eq]
  generalize (lg_sl ([.ref (ad 0), .int a1, .int a2, .int a3, .int a4]) ++ List.replicate (11 - (lg_sl ([.ref (ad 0), .int a1, .int a2, .int a3, .int a4])).length) Slot.unset).toArray = ls at hl ⊢
  have hl : lv_has ls 11 [(0, .ref (ad 0)), (1, .int a1), (2, .int a2), (3, .int a3), (4, .int a4)] := hl
  refine lv_aload_n hx hb d_Mod_squareTo_0 rfl (lv_at hl 0 rfl) ?_
  refine va_get (D := (dC, dI)) (ci := 9) (v := .ref (ad 18)) (C := R_Mod) (T := F_Mod) (N := 31) hx hb hbw in_Mod hown hK hP 0 rfl rfl 26 (by decide) (hbw _ w_735) (fun _ h9 => h9) rfl d_Mod_squareTo_1 ?_
  refine lv_iload_n hx hb d_Mod_squareTo_4 rfl (lv_at hl 1 rfl) ?_
  refine va_iald hx hb hK hP 18 0 rfl rfl hw1 d_Mod_squareTo_5 ?_
  refine lv_iload_n hx hb d_Mod_squareTo_6 rfl (lv_at hl 2 rfl) ?_
  refine lv_isub hx hb d_Mod_squareTo_7 ?_
  refine lv_i2l hx hb d_Mod_squareTo_8 rfl ?_
  refine lv_lstore (lv' := [(5, .long ((((q_m_windowX x) a1.toNatClampNeg) - a2).toInt64)), (0, .ref (ad 0)), (1, .int a1), (2, .int a2), (3, .int a3), (4, .int a4)]) hx hb d_Mod_squareTo_9 hl (by decide) rfl (fun ls hl => ?_)
  refine lv_aload_n hx hb d_Mod_squareTo_11 rfl (lv_at hl 1 rfl) ?_
  refine va_get (D := (dC, dI)) (ci := 9) (v := .ref (ad 19)) (C := R_Mod) (T := F_Mod) (N := 31) hx hb hbw in_Mod hown hK hP 0 rfl rfl 27 (by decide) (hbw _ w_736) (fun _ h9 => h9) rfl d_Mod_squareTo_12 ?_
  refine lv_iload_n hx hb d_Mod_squareTo_15 rfl (lv_at hl 2 rfl) ?_
  refine va_iald hx hb hK hP 19 0 rfl rfl hw1 d_Mod_squareTo_16 ?_
  refine lv_iload_n hx hb d_Mod_squareTo_17 rfl (lv_at hl 4 rfl) ?_
  refine lv_isub hx hb d_Mod_squareTo_18 ?_
  refine lv_i2l hx hb d_Mod_squareTo_19 rfl ?_
  refine lv_lstore (lv' := [(7, .long ((((q_m_windowY x) a1.toNatClampNeg) - a3).toInt64)), (5, .long ((((q_m_windowX x) a1.toNatClampNeg) - a2).toInt64)), (0, .ref (ad 0)), (1, .int a1), (2, .int a2), (3, .int a3), (4, .int a4)]) hx hb d_Mod_squareTo_20 hl (by decide) rfl (fun ls hl => ?_)
  refine lv_aload_n hx hb d_Mod_squareTo_22 rfl (lv_at hl 2 rfl) ?_
  refine va_get (D := (dC, dI)) (ci := 9) (v := .ref (ad 20)) (C := R_Mod) (T := F_Mod) (N := 31) hx hb hbw in_Mod hown hK hP 0 rfl rfl 28 (by decide) (hbw _ w_737) (fun _ h9 => h9) rfl d_Mod_squareTo_23 ?_
  refine lv_iload_n hx hb d_Mod_squareTo_26 rfl (lv_at hl 3 rfl) ?_
  refine va_iald hx hb hK hP 20 0 rfl rfl hw1 d_Mod_squareTo_27 ?_
  refine lv_iload hx hb d_Mod_squareTo_28 (lv_at hl 6 rfl) ?_
  refine lv_isub hx hb d_Mod_squareTo_30 ?_
  refine lv_i2l hx hb d_Mod_squareTo_31 rfl ?_
  refine lv_lstore (lv' := [(9, .long ((((q_m_windowZ x) a1.toNatClampNeg) - a4).toInt64)), (7, .long ((((q_m_windowY x) a1.toNatClampNeg) - a3).toInt64)), (5, .long ((((q_m_windowX x) a1.toNatClampNeg) - a2).toInt64)), (0, .ref (ad 0)), (1, .int a1), (2, .int a2), (3, .int a3), (4, .int a4)]) hx hb d_Mod_squareTo_32 hl (by decide) rfl (fun ls hl => ?_)
  refine lv_lload hx hb d_Mod_squareTo_34 (lv_at hl 2 rfl) ?_
  refine lv_lload hx hb d_Mod_squareTo_36 (lv_at hl 2 rfl) ?_
  refine lv_lmul hx hb d_Mod_squareTo_38 ?_
  refine lv_lload hx hb d_Mod_squareTo_39 (lv_at hl 1 rfl) ?_
  refine lv_lload hx hb d_Mod_squareTo_41 (lv_at hl 1 rfl) ?_
  refine lv_lmul hx hb d_Mod_squareTo_43 ?_
  refine lv_ladd hx hb d_Mod_squareTo_44 ?_
  refine lv_lload hx hb d_Mod_squareTo_45 (lv_at hl 0 rfl) ?_
  refine lv_lload hx hb d_Mod_squareTo_47 (lv_at hl 0 rfl) ?_
  refine lv_lmul hx hb d_Mod_squareTo_49 ?_
  refine lv_ladd hx hb d_Mod_squareTo_50 ?_
  exact W.toX (W.lret (v := ((((((q_m_windowX x) a1.toNatClampNeg) - a2).toInt64) * ((((q_m_windowX x) a1.toNatClampNeg) - a2).toInt64)) + (((((q_m_windowY x) a1.toNatClampNeg) - a3).toInt64) * ((((q_m_windowY x) a1.toNatClampNeg) - a3).toInt64))) + (((((q_m_windowZ x) a1.toNatClampNeg) - a4).toInt64) * ((((q_m_windowZ x) a1.toNatClampNeg) - a4).toInt64))) hx hb hr (fun t ht hW => ⟨by rw [show f_Mod_squareTo x a1 a2 a3 a4 = ((((((q_m_windowX x) a1.toNatClampNeg) - a2).toInt64) * ((((q_m_windowX x) a1.toNatClampNeg) - a2).toInt64)) + (((((q_m_windowY x) a1.toNatClampNeg) - a3).toInt64) * ((((q_m_windowY x) a1.toNatClampNeg) - a3).toInt64))) + (((((q_m_windowZ x) a1.toNatClampNeg) - a4).toInt64) * ((((q_m_windowZ x) a1.toNatClampNeg) - a4).toInt64)) from rfl], ht⟩) (fun q hq => by cases hq) d_Mod_squareTo_51)
def L_Mod_count (a1 : Int32) : Nat → Int32 → Int32 → RT → Int32 × RT
  | 0, _, _, z => (0, z)
  | k + 1, n, i, z => if 30 < i then (if a1 = 0 then (q_m_rooms z, z) else (if a1 = 1 then (q_m_doors z, z) else (if a1 = 2 then (q_m_detectors z, z) else (if a1 = 3 then (q_m_windows z, z) else (n, z))))) else L_Mod_count a1 k (n + (if ((q_m_hand z) i.toNatClampNeg) = 0 then 0 else 1 : Int32)) (i + 1) z
theorem L_Mod_count_s (a1 : Int32) (k : Nat) (n i : Int32) (z : RT) : L_Mod_count a1 (k + 1) n i z = if 30 < i then (if a1 = 0 then (q_m_rooms z, z) else (if a1 = 1 then (q_m_doors z, z) else (if a1 = 2 then (q_m_detectors z, z) else (if a1 = 3 then (q_m_windows z, z) else (n, z))))) else L_Mod_count a1 k (n + (if ((q_m_hand z) i.toNatClampNeg) = 0 then 0 else 1 : Int32)) (i + 1) z := rfl
def g_Mod_count (x : RT) (a1 : Int32) : Int32 × RT := if ((g_Mod_throwing x (if (f_Mod_in a1 0 4) = 0 then 1 else 0 : Int32) 0 0 0).1) = 0 then L_Mod_count a1 32 0 1 ((g_Mod_throwing x (if (f_Mod_in a1 0 4) = 0 then 1 else 0 : Int32) 0 0 0).2) else (0, ((g_Mod_throwing x (if (f_Mod_in a1 0 4) = 0 then 1 else 0 : Int32) 0 0 0).2))
set_option maxHeartbeats 400000 in
set_option maxRecDepth 100000 in
theorem u_Mod_count (l : Launch) (dC : Nat → ClassId) (dI : Nat → Nat → Nat) (cI cZ : ClassId) (ad : Nat → Nat) (hj : aInj 21 ad) (x : RT) (hI : RIn x) (sz : Nat) (a1 : Int32) : MX l y_Mod_count (Cond.code y_Mod_count b_Mod_count 4 (some .int) :: BW) { frames := 1, cells := 0, slots := 0, locals := 24 } (PCZ sz (dC, dI) [(cI, .int), (cZ, .boolean)] (wR cI cZ ad x) [.ref (ad 0), .int a1]) (UQ (some (.int (g_Mod_count x a1).1)) (WB (dC, dI) [(cI, .int), (cZ, .boolean)] (wR cI cZ ad (g_Mod_count x a1).2)) (aC 21 ad sz)) 0 0 (aC 21 ad sz) := by
  refine MX.ofW (cc := b_Mod_count) (maxL := 4) (ret := (some .int)) (by decide) rfl ?_
  intro p e s m args below meth c s₁ B hml hex hv
  obtain ⟨hsz, rfl, hP, hK, hN⟩ := hv
  subst hsz
  have hx := B.exec
  have hb := B.bytes
  have hr := B.returns
  have hts := atoms_spec (ws := Cond.code y_Mod_count b_Mod_count 4 (some .int) :: BW) B.pre
  have hbw : ∀ w ∈ BW, w.before ([.ref (ad 0), .int a1]).toArray s = true := fun w h => hts w (List.mem_cons_of_mem _ h)
  have hown : s.vm.findClass "PlanRowsModel" = some m.cls := findClass_of_methodNamed B.named
  have hlocks := B.notSynchronized
  have hDx : ∀ z, va_D (aC 21 ad s.heap.size) (wR cI cZ ad z) := fun z => w_D hj (wR_ad cI cZ ad z) _
  have hA : ∀ H : Heap, s.heap.size ≤ H.size → ∀ q, aC 21 ad H.size q → aC 21 ad s.heap.size q := fun H h => aC_le h
  generalize aC 21 ad s.heap.size = A at hDx hA ⊢
  have hD := hDx x
  have hS : va_S A s.heap s.heap [] := va_S.rf
  have hI0 := hI
  have hl := lv_entry ([.ref (ad 0), .int a1]) (n := 4) (Nat.le_of_ble_eq_true rfl)
  rw [lg_entry_eq]
  generalize (lg_sl ([.ref (ad 0), .int a1]) ++ List.replicate (4 - (lg_sl ([.ref (ad 0), .int a1])).length) Slot.unset).toArray = ls at hl ⊢
  obtain ⟨H, hH⟩ : ∃ H, H = s.heap := ⟨_, rfl⟩
  obtain ⟨locs, hlocs⟩ : ∃ locs : List Loc, locs = [] := ⟨_, rfl⟩
  have hP : va_P (dC, dI) clsA (wR cI cZ ad x) H := by rw [hH]; exact hP
  have hS : va_S A s.heap H locs := by rw [hH, hlocs]; exact hS
  rw [← hlocs]
  have hW0 : ∀ (R : Room) (Q : State → Prop) (g : JFrame), W p l e R s m ([.ref (ad 0), .int a1]).toArray below meth c H locs 0 0 Q g → W p l e R s m ([.ref (ad 0), .int a1]).toArray below meth c s.heap locs 0 0 Q g := fun R Q g h => by rw [← hH]; exact h
  refine hW0 _ _ _ ?_
  have hl : lv_has ls 4 [(0, .ref (ad 0)), (1, .int a1)] := hl
  refine lv_aload_n hx hb d_Mod_count_0 rfl (lv_at hl 0 rfl) ?_
  refine lv_iload_n hx hb d_Mod_count_1 rfl (lv_at hl 1 rfl) ?_
  refine lv_iconst (v := 0) hx hb d_Mod_count_2 (by decide) ?_
  refine lv_iconst (v := 4) hx hb d_Mod_count_3 (by decide) ?_
  refine xs (As := [.int a1, .int 0, .int 4]) (rest := [.ref (ad 0)]) ⟨hx, hb, hml, hown, hts⟩ (c_Mod_in l dC dI _ _ a1 0 4) (cw_Mod_84 hts rfl rfl ⟨Nat.le_of_ble_eq_true rfl, Nat.le_of_ble_eq_true rfl⟩) hK hN hP rfl hl.1 rfl (Nat.le_of_ble_eq_true rfl) d_Mod_count_4 ⟨Nat.zero_le _, Nat.zero_le _⟩ ?_
  have jn_1 : W p l e { frames := 1, cells := 0, slots := 0, locals := 24 } s m ([.ref (ad 0), .int a1]).toArray below meth c H locs 0 0 (MQX below (UQ (some (.int (g_Mod_count x a1).1)) (WB (dC, dI) [(cI, .int), (cZ, .boolean)] (wR cI cZ ad (g_Mod_count x a1).2)) A) ([.ref (ad 0), .int a1]).toArray s 0 0 A) (F0 m 15 ls [.int (if (f_Mod_in a1 0 4) = 0 then 1 else 0 : Int32), .ref (ad 0)]) := by
    refine lv_iconst (v := 0) hx hb d_Mod_count_15 (by decide) ?_
    refine lv_iconst (v := 0) hx hb d_Mod_count_16 (by decide) ?_
    refine lv_iconst (v := 0) hx hb d_Mod_count_17 (by decide) ?_
    refine x_upd (x_runV (C := "PlanRowsModel") (b := (ad 0)) (As := [.int (if (f_Mod_in a1 0 4) = 0 then 1 else 0 : Int32), .int 0, .int 0, .int 0]) (rest := []) ⟨hx, hb, hml, hown, hts⟩ (u_Mod_throwing l dC dI cI cZ ad hj x hI H.size (if (f_Mod_in a1 0 4) = 0 then 1 else 0 : Int32) 0 0 0) (cw_Mod_88 hts rfl rfl ⟨Nat.le_of_ble_eq_true rfl, Nat.le_of_ble_eq_true rfl⟩) ⟨PCZ.blind, va_recv hK hP (ci := 9) (q0 := 0) rfl rfl, PCZ.at hK hN hP⟩ rfl rfl hl.1 rfl (lv_room (Nat.le_of_ble_eq_true rfl)) d_Mod_count_18 ⟨Nat.zero_le _, Nat.zero_le _⟩) hS (fun q _ h => hA H hS.1 q h) (fun q h => hA H hS.1 q h) (fun t H1 locs ht hW hB hz1 hk1 hS => ?_)
    obtain ⟨hP, -, -⟩ := hB
    rw [ht] at hP
    generalize H1 = H at hP hS ⊢
    obtain ⟨y_3, hy_3⟩ : ∃ z, z = (g_Mod_throwing x (if (f_Mod_in a1 0 4) = 0 then 1 else 0 : Int32) 0 0 0).2 := ⟨_, rfl⟩
    rw [← hy_3] at hP
    have hty_3 : thr x y_3 := by rw [hy_3]; exact thr_throwing x (if (f_Mod_in a1 0 4) = 0 then 1 else 0 : Int32) 0 0 0
    have hI : RIn y_3 := ri_thr hty_3 hI0
    have hD : va_D A (wR cI cZ ad y_3) := hDx _
    refine lv_if_eq (tgt := 26) hx hb d_Mod_count_21 (by decide) (fun c_4 => ?_) (fun c_4 => ?_)
    · refine lv_iconst (v := 0) hx hb d_Mod_count_26 (by decide) ?_
      refine lv_istore_n (lv' := [(2, .int 0), (0, .ref (ad 0)), (1, .int a1)]) hx hb d_Mod_count_27 rfl hl (by decide) rfl (fun ls hl => ?_)
      refine lv_iconst (v := 1) hx hb d_Mod_count_28 (by decide) ?_
      refine lv_istore_n (lv' := [(3, .int 1), (2, .int 0), (0, .ref (ad 0)), (1, .int a1)]) hx hb d_Mod_count_29 rfl hl (by decide) rfl (fun ls hl => ?_)
      have loop : ∀ (k : Nat) (n i : Int32) (z : RT) (ls : Array Slot) (H : Heap) (locs : List Loc), 0 ≤ i.toInt ∧ i.toInt ≤ 31 ∧ 31 - i.toInt < ((k : Nat) : Int) → thr x z → g_Mod_count x a1 = L_Mod_count a1 k n i z → va_P (dC, dI) clsA (wR cI cZ ad z) H → va_S A s.heap H locs → lv_has ls 4 [(3, .int i), (2, .int n), (0, .ref (ad 0)), (1, .int a1)] → W p l e { frames := 1, cells := 0, slots := 0, locals := 24 } s m ([.ref (ad 0), .int a1]).toArray below meth c H locs 0 0 (MQX below (UQ (some (.int (g_Mod_count x a1).1)) (WB (dC, dI) [(cI, .int), (cZ, .boolean)] (wR cI cZ ad (g_Mod_count x a1).2)) A) ([.ref (ad 0), .int a1]).toArray s 0 0 A) (F0 m 30 ls []) := by
        intro k
        induction k with
        | zero =>
          intro n i z ls H locs hi hz hq hP hS hl
          obtain ⟨h1, h2, h3⟩ := hi
          omega
        | succ k ih =>
          intro n i z ls H locs hi hz hq hP hS hl
          have hq := hq.trans (L_Mod_count_s a1 k n i z)
          have hI := (ri_thr hz hI0)
          have hD := hDx z
          refine lv_iload_n hx hb d_Mod_count_30 rfl (lv_at hl 0 rfl) ?_
          refine lv_bipush (v := 30) hx hb d_Mod_count_31 (by decide) ?_
          refine lv_icmp_gt (tgt := 59) hx hb d_Mod_count_33 (by decide) (fun c_5 => ?_) (fun c_5 => ?_)
          · refine lv_iload_n hx hb d_Mod_count_59 rfl (lv_at hl 3 rfl) ?_
            refine lv_if_ne (tgt := 70) hx hb d_Mod_count_60 (by decide) (fun c_6 => ?_) (fun c_6 => ?_)
            · refine lv_iload_n hx hb d_Mod_count_70 rfl (lv_at hl 3 rfl) ?_
              refine lv_iconst (v := 1) hx hb d_Mod_count_71 (by decide) ?_
              refine lv_icmp_ne (tgt := 82) hx hb d_Mod_count_72 (by decide) (fun c_7 => ?_) (fun c_7 => ?_)
              · refine lv_iload_n hx hb d_Mod_count_82 rfl (lv_at hl 3 rfl) ?_
                refine lv_iconst (v := 2) hx hb d_Mod_count_83 (by decide) ?_
                refine lv_icmp_ne (tgt := 94) hx hb d_Mod_count_84 (by decide) (fun c_8 => ?_) (fun c_8 => ?_)
                · refine lv_iload_n hx hb d_Mod_count_94 rfl (lv_at hl 3 rfl) ?_
                  refine lv_iconst (v := 3) hx hb d_Mod_count_95 (by decide) ?_
                  refine lv_icmp_ne (tgt := 106) hx hb d_Mod_count_96 (by decide) (fun c_9 => ?_) (fun c_9 => ?_)
                  · refine lv_iload_n hx hb d_Mod_count_106 rfl (lv_at hl 1 rfl) ?_
                    have hg : g_Mod_count x a1 = (n, z) := by rw [hq, if_pos c_5, if_neg c_6, if_neg c_7, if_neg c_8, if_neg c_9]
                    exact W.toX (W.iret (v := n) hx hb hr (fun t ht hW => ⟨by rw [hg, pr_fst], ⟨by rw [ht, hg, pr_snd]; exact hP, va_K.moved hW.alike hK, hN.warm hW⟩, hS.F ht⟩) hS.2.2 d_Mod_count_107)
                  · refine lv_aload_n hx hb d_Mod_count_99 rfl (lv_at hl 2 rfl) ?_
                    refine va_get (D := (dC, dI)) (ci := 9) (v := .int (q_m_windows z)) (C := R_Mod) (T := F_Mod) (N := 31) hx hb hbw in_Mod hown hK hP 0 rfl rfl 25 (by decide) (hbw _ w_734) (fun _ h9 => h9) rfl d_Mod_count_100 ?_
                    refine lv_goto (tgt := 107) hx hb d_Mod_count_103 (by decide) ?_
                    have hg : g_Mod_count x a1 = (q_m_windows z, z) := by rw [hq, if_pos c_5, if_neg c_6, if_neg c_7, if_neg c_8, if_pos c_9]
                    exact W.toX (W.iret (v := q_m_windows z) hx hb hr (fun t ht hW => ⟨by rw [hg, pr_fst], ⟨by rw [ht, hg, pr_snd]; exact hP, va_K.moved hW.alike hK, hN.warm hW⟩, hS.F ht⟩) hS.2.2 d_Mod_count_107)
                · refine lv_aload_n hx hb d_Mod_count_87 rfl (lv_at hl 2 rfl) ?_
                  refine va_get (D := (dC, dI)) (ci := 9) (v := .int (q_m_detectors z)) (C := R_Mod) (T := F_Mod) (N := 31) hx hb hbw in_Mod hown hK hP 0 rfl rfl 16 (by decide) (hbw _ w_725) (fun _ h9 => h9) rfl d_Mod_count_88 ?_
                  refine lv_goto (tgt := 107) hx hb d_Mod_count_91 (by decide) ?_
                  have hg : g_Mod_count x a1 = (q_m_detectors z, z) := by rw [hq, if_pos c_5, if_neg c_6, if_neg c_7, if_pos c_8]
                  exact W.toX (W.iret (v := q_m_detectors z) hx hb hr (fun t ht hW => ⟨by rw [hg, pr_fst], ⟨by rw [ht, hg, pr_snd]; exact hP, va_K.moved hW.alike hK, hN.warm hW⟩, hS.F ht⟩) hS.2.2 d_Mod_count_107)
              · refine lv_aload_n hx hb d_Mod_count_75 rfl (lv_at hl 2 rfl) ?_
                refine va_get (D := (dC, dI)) (ci := 9) (v := .int (q_m_doors z)) (C := R_Mod) (T := F_Mod) (N := 31) hx hb hbw in_Mod hown hK hP 0 rfl rfl 5 (by decide) (hbw _ w_714) (fun _ h9 => h9) rfl d_Mod_count_76 ?_
                refine lv_goto (tgt := 107) hx hb d_Mod_count_79 (by decide) ?_
                have hg : g_Mod_count x a1 = (q_m_doors z, z) := by rw [hq, if_pos c_5, if_neg c_6, if_pos c_7]
                exact W.toX (W.iret (v := q_m_doors z) hx hb hr (fun t ht hW => ⟨by rw [hg, pr_fst], ⟨by rw [ht, hg, pr_snd]; exact hP, va_K.moved hW.alike hK, hN.warm hW⟩, hS.F ht⟩) hS.2.2 d_Mod_count_107)
            · refine lv_aload_n hx hb d_Mod_count_63 rfl (lv_at hl 2 rfl) ?_
              refine va_get (D := (dC, dI)) (ci := 9) (v := .int (q_m_rooms z)) (C := R_Mod) (T := F_Mod) (N := 31) hx hb hbw in_Mod hown hK hP 0 rfl rfl 1 (by decide) (hbw _ w_710) (fun _ h9 => h9) rfl d_Mod_count_64 ?_
              refine lv_goto (tgt := 107) hx hb d_Mod_count_67 (by decide) ?_
              have hg : g_Mod_count x a1 = (q_m_rooms z, z) := by rw [hq, if_pos c_5, if_pos c_6]
              exact W.toX (W.iret (v := q_m_rooms z) hx hb hr (fun t ht hW => ⟨by rw [hg, pr_fst], ⟨by rw [ht, hg, pr_snd]; exact hP, va_K.moved hW.alike hK, hN.warm hW⟩, hS.F ht⟩) hS.2.2 d_Mod_count_107)
          · refine lv_iload_n hx hb d_Mod_count_36 rfl (lv_at hl 1 rfl) ?_
            refine lv_aload_n hx hb d_Mod_count_37 rfl (lv_at hl 2 rfl) ?_
            refine va_get (D := (dC, dI)) (ci := 9) (v := .ref (ad 8)) (C := R_Mod) (T := F_Mod) (N := 31) hx hb hbw in_Mod hown hK hP 0 rfl rfl 10 (by decide) (hbw _ w_719) (fun _ h9 => h9) rfl d_Mod_count_38 ?_
            refine lv_iload_n hx hb d_Mod_count_41 rfl (lv_at hl 0 rfl) ?_
            refine va_zald hx hb hK hP 8 1 rfl rfl (ix_31 hi c_5) d_Mod_count_42 ?_
            have jn_10 : W p l e { frames := 1, cells := 0, slots := 0, locals := 24 } s m ([.ref (ad 0), .int a1]).toArray below meth c H locs 0 0 (MQX below (UQ (some (.int (g_Mod_count x a1).1)) (WB (dC, dI) [(cI, .int), (cZ, .boolean)] (wR cI cZ ad (g_Mod_count x a1).2)) A) ([.ref (ad 0), .int a1]).toArray s 0 0 A) (F0 m 51 ls [.int (if ((q_m_hand z) i.toNatClampNeg) = 0 then 0 else 1 : Int32), .int n]) := by
              refine lv_iadd hx hb d_Mod_count_51 ?_
              refine lv_istore_n (lv' := [(2, .int (n + (if ((q_m_hand z) i.toNatClampNeg) = 0 then 0 else 1 : Int32))), (3, .int i), (0, .ref (ad 0)), (1, .int a1)]) hx hb d_Mod_count_52 rfl hl (by decide) rfl (fun ls hl => ?_)
              refine lv_iinc (v := i + 1) (lv' := [(3, .int (i + 1)), (2, .int (n + (if ((q_m_hand z) i.toNatClampNeg) = 0 then 0 else 1 : Int32))), (0, .ref (ad 0)), (1, .int a1)]) hx hb d_Mod_count_53 hl (k := 1) rfl rfl (by decide) rfl (fun ls hl => ?_)
              refine lv_goto (tgt := 30) hx hb d_Mod_count_56 (by decide) ?_
              exact ih (n + (if ((q_m_hand z) i.toNatClampNeg) = 0 then 0 else 1 : Int32)) (i + 1) z ls H locs (lp_inc31 hi c_5) hz (by rw [hq, if_neg c_5]) hP hS (lv_sub hl [0, 1, 2, 3] rfl)
            refine lv_if_eq (tgt := 50) hx hb d_Mod_count_43 (by decide) (fun c_11 => ?_) (fun c_11 => ?_)
            · refine lv_iconst (v := 0) hx hb d_Mod_count_50 (by decide) ?_
              rw [show (if ((q_m_hand z) i.toNatClampNeg) = 0 then 0 else 1 : Int32) = 0 from by rw [if_pos c_11]] at jn_10
              exact jn_10
            · refine lv_iconst (v := 1) hx hb d_Mod_count_46 (by decide) ?_
              refine lv_goto (tgt := 51) hx hb d_Mod_count_47 (by decide) ?_
              rw [show (if ((q_m_hand z) i.toNatClampNeg) = 0 then 0 else 1 : Int32) = 1 from by rw [if_neg c_11]] at jn_10
              exact jn_10
      exact loop 32 0 1 y_3 ls H locs (by decide) (show thr x y_3 from hty_3) (by rw [hy_3]; unfold g_Mod_count; rw [if_pos c_4]) hP hS (lv_sub hl [0, 1, 2, 3] rfl)
    · refine lv_iconst (v := 0) hx hb d_Mod_count_24 (by decide) ?_
      subst hy_3
      have hg : g_Mod_count x a1 = (0, ((g_Mod_throwing x (if (f_Mod_in a1 0 4) = 0 then 1 else 0 : Int32) 0 0 0).2)) := by unfold g_Mod_count; rw [if_neg c_4]
      exact W.toX (W.iret (v := 0) hx hb hr (fun t ht hW => ⟨by rw [hg, pr_fst], ⟨by rw [ht, hg, pr_snd]; exact hP, va_K.moved hW.alike hK, hN.warm hW⟩, hS.F ht⟩) hS.2.2 d_Mod_count_25)
  refine lv_if_ne (tgt := 14) hx hb d_Mod_count_7 (by decide) (fun c_2 => ?_) (fun c_2 => ?_)
  · refine lv_iconst (v := 0) hx hb d_Mod_count_14 (by decide) ?_
    rw [show (if (f_Mod_in a1 0 4) = 0 then 1 else 0 : Int32) = 0 from by rw [if_neg c_2]] at jn_1
    exact jn_1
  · refine lv_iconst (v := 1) hx hb d_Mod_count_10 (by decide) ?_
    refine lv_goto (tgt := 15) hx hb d_Mod_count_11 (by decide) ?_
    rw [show (if (f_Mod_in a1 0 4) = 0 then 1 else 0 : Int32) = 1 from by rw [if_pos c_2]] at jn_1
    exact jn_1
def L_Mod_inside (a1 a2 : Int32) : Nat → Int32 → Int32 → RT → Int32 × RT
  | 0, _, _, z => (0, z)
  | k + 1, n, i, z => if (q_m_rows z) ≤ i then (n, z) else L_Mod_inside a1 a2 k (n + (if (if ((q_m_rowTo z) i.toNatClampNeg) < ((q_m_rowFrom z) i.toNatClampNeg) then (if ((q_m_rowFrom z) i.toNatClampNeg) ≤ a2 then 1 else (if ((q_m_rowTo z) i.toNatClampNeg) < a2 then 0 else 1)) else (if a2 < ((q_m_rowFrom z) i.toNatClampNeg) then 0 else (if ((q_m_rowTo z) i.toNatClampNeg) < a2 then 0 else 1)) : Int32) = 0 then 0 else (if a1 < 0 then (q_m_rowMany z) i.toNatClampNeg else (if ((q_m_floor z) ((q_m_rowRoom z) i.toNatClampNeg).toNatClampNeg) = a1 then (q_m_rowMany z) i.toNatClampNeg else 0)) : Int32)) (i + 1) z
theorem L_Mod_inside_s (a1 a2 : Int32) (k : Nat) (n i : Int32) (z : RT) : L_Mod_inside a1 a2 (k + 1) n i z = if (q_m_rows z) ≤ i then (n, z) else L_Mod_inside a1 a2 k (n + (if (if ((q_m_rowTo z) i.toNatClampNeg) < ((q_m_rowFrom z) i.toNatClampNeg) then (if ((q_m_rowFrom z) i.toNatClampNeg) ≤ a2 then 1 else (if ((q_m_rowTo z) i.toNatClampNeg) < a2 then 0 else 1)) else (if a2 < ((q_m_rowFrom z) i.toNatClampNeg) then 0 else (if ((q_m_rowTo z) i.toNatClampNeg) < a2 then 0 else 1)) : Int32) = 0 then 0 else (if a1 < 0 then (q_m_rowMany z) i.toNatClampNeg else (if ((q_m_floor z) ((q_m_rowRoom z) i.toNatClampNeg).toNatClampNeg) = a1 then (q_m_rowMany z) i.toNatClampNeg else 0)) : Int32)) (i + 1) z := rfl
def g_Mod_inside (x : RT) (a1 a2 : Int32) : Int32 × RT := if ((g_Mod_throwing x (if (f_Mod_in a1 (-1) 19) = 0 then 1 else 0 : Int32) (if (f_Mod_isHour a2) = 0 then 1 else 0 : Int32) 0 0).1) = 0 then L_Mod_inside a1 a2 61 0 0 ((g_Mod_throwing x (if (f_Mod_in a1 (-1) 19) = 0 then 1 else 0 : Int32) (if (f_Mod_isHour a2) = 0 then 1 else 0 : Int32) 0 0).2) else (0, ((g_Mod_throwing x (if (f_Mod_in a1 (-1) 19) = 0 then 1 else 0 : Int32) (if (f_Mod_isHour a2) = 0 then 1 else 0 : Int32) 0 0).2))
set_option maxHeartbeats 400000 in
set_option maxRecDepth 100000 in
theorem u_Mod_inside (l : Launch) (dC : Nat → ClassId) (dI : Nat → Nat → Nat) (cI cZ : ClassId) (ad : Nat → Nat) (hj : aInj 21 ad) (x : RT) (hI : RIn x) (sz : Nat) (a1 a2 : Int32) : MX l y_Mod_inside (Cond.code y_Mod_inside b_Mod_inside 8 (some .int) :: BW) { frames := 2, cells := 0, slots := 0, locals := 42 } (PCZ sz (dC, dI) [(cI, .int), (cZ, .boolean)] (wR cI cZ ad x) [.ref (ad 0), .int a1, .int a2]) (UQ (some (.int (g_Mod_inside x a1 a2).1)) (WB (dC, dI) [(cI, .int), (cZ, .boolean)] (wR cI cZ ad (g_Mod_inside x a1 a2).2)) (aC 21 ad sz)) 0 0 (aC 21 ad sz) := by
  refine MX.ofW (cc := b_Mod_inside) (maxL := 8) (ret := (some .int)) (by decide) rfl ?_
  intro p e s m args below meth c s₁ B hml hex hv
  obtain ⟨hsz, rfl, hP, hK, hN⟩ := hv
  subst hsz
  have hx := B.exec
  have hb := B.bytes
  have hr := B.returns
  have hts := atoms_spec (ws := Cond.code y_Mod_inside b_Mod_inside 8 (some .int) :: BW) B.pre
  have hbw : ∀ w ∈ BW, w.before ([.ref (ad 0), .int a1, .int a2]).toArray s = true := fun w h => hts w (List.mem_cons_of_mem _ h)
  have hown : s.vm.findClass "PlanRowsModel" = some m.cls := findClass_of_methodNamed B.named
  have hlocks := B.notSynchronized
  have hDx : ∀ z, va_D (aC 21 ad s.heap.size) (wR cI cZ ad z) := fun z => w_D hj (wR_ad cI cZ ad z) _
  have hA : ∀ H : Heap, s.heap.size ≤ H.size → ∀ q, aC 21 ad H.size q → aC 21 ad s.heap.size q := fun H h => aC_le h
  generalize aC 21 ad s.heap.size = A at hDx hA ⊢
  have hD := hDx x
  have hS : va_S A s.heap s.heap [] := va_S.rf
  have hI0 := hI
  have hl := lv_entry ([.ref (ad 0), .int a1, .int a2]) (n := 8) (Nat.le_of_ble_eq_true rfl)
  rw [lg_entry_eq]
  generalize (lg_sl ([.ref (ad 0), .int a1, .int a2]) ++ List.replicate (8 - (lg_sl ([.ref (ad 0), .int a1, .int a2])).length) Slot.unset).toArray = ls at hl ⊢
  obtain ⟨H, hH⟩ : ∃ H, H = s.heap := ⟨_, rfl⟩
  obtain ⟨locs, hlocs⟩ : ∃ locs : List Loc, locs = [] := ⟨_, rfl⟩
  have hP : va_P (dC, dI) clsA (wR cI cZ ad x) H := by rw [hH]; exact hP
  have hS : va_S A s.heap H locs := by rw [hH, hlocs]; exact hS
  rw [← hlocs]
  have hW0 : ∀ (R : Room) (Q : State → Prop) (g : JFrame), W p l e R s m ([.ref (ad 0), .int a1, .int a2]).toArray below meth c H locs 0 0 Q g → W p l e R s m ([.ref (ad 0), .int a1, .int a2]).toArray below meth c s.heap locs 0 0 Q g := fun R Q g h => by rw [← hH]; exact h
  refine hW0 _ _ _ ?_
  have hl : lv_has ls 8 [(0, .ref (ad 0)), (1, .int a1), (2, .int a2)] := hl
  refine lv_aload_n hx hb d_Mod_inside_0 rfl (lv_at hl 0 rfl) ?_
  refine lv_iload_n hx hb d_Mod_inside_1 rfl (lv_at hl 1 rfl) ?_
  refine lv_iconst (v := (-1)) hx hb d_Mod_inside_2 (by decide) ?_
  refine lv_bipush (v := 19) hx hb d_Mod_inside_3 (by decide) ?_
  refine xs (As := [.int a1, .int (-1), .int 19]) (rest := [.ref (ad 0)]) ⟨hx, hb, hml, hown, hts⟩ (c_Mod_in l dC dI _ _ a1 (-1) 19) (cw_Mod_84 hts rfl rfl ⟨Nat.le_of_ble_eq_true rfl, Nat.le_of_ble_eq_true rfl⟩) hK hN hP rfl hl.1 rfl (Nat.le_of_ble_eq_true rfl) d_Mod_inside_5 ⟨Nat.zero_le _, Nat.zero_le _⟩ ?_
  have jn_1 : W p l e { frames := 2, cells := 0, slots := 0, locals := 42 } s m ([.ref (ad 0), .int a1, .int a2]).toArray below meth c H locs 0 0 (MQX below (UQ (some (.int (g_Mod_inside x a1 a2).1)) (WB (dC, dI) [(cI, .int), (cZ, .boolean)] (wR cI cZ ad (g_Mod_inside x a1 a2).2)) A) ([.ref (ad 0), .int a1, .int a2]).toArray s 0 0 A) (F0 m 16 ls [.int (if (f_Mod_in a1 (-1) 19) = 0 then 1 else 0 : Int32), .ref (ad 0)]) := by
    refine lv_iload_n hx hb d_Mod_inside_16 rfl (lv_at hl 2 rfl) ?_
    refine xs (As := [.int a2]) (rest := [.int (if (f_Mod_in a1 (-1) 19) = 0 then 1 else 0 : Int32), .ref (ad 0)]) ⟨hx, hb, hml, hown, hts⟩ (c_Mod_isHour l dC dI _ _ a2) (cw_Mod_134 hts rfl rfl ⟨Nat.le_of_ble_eq_true rfl, Nat.le_of_ble_eq_true rfl⟩) hK hN hP rfl hl.1 rfl (Nat.le_of_ble_eq_true rfl) d_Mod_inside_17 ⟨Nat.zero_le _, Nat.zero_le _⟩ ?_
    have jn_3 : W p l e { frames := 2, cells := 0, slots := 0, locals := 42 } s m ([.ref (ad 0), .int a1, .int a2]).toArray below meth c H locs 0 0 (MQX below (UQ (some (.int (g_Mod_inside x a1 a2).1)) (WB (dC, dI) [(cI, .int), (cZ, .boolean)] (wR cI cZ ad (g_Mod_inside x a1 a2).2)) A) ([.ref (ad 0), .int a1, .int a2]).toArray s 0 0 A) (F0 m 28 ls [.int (if (f_Mod_isHour a2) = 0 then 1 else 0 : Int32), .int (if (f_Mod_in a1 (-1) 19) = 0 then 1 else 0 : Int32), .ref (ad 0)]) := by
      refine lv_iconst (v := 0) hx hb d_Mod_inside_28 (by decide) ?_
      refine lv_iconst (v := 0) hx hb d_Mod_inside_29 (by decide) ?_
      refine x_upd (x_runV (C := "PlanRowsModel") (b := (ad 0)) (As := [.int (if (f_Mod_in a1 (-1) 19) = 0 then 1 else 0 : Int32), .int (if (f_Mod_isHour a2) = 0 then 1 else 0 : Int32), .int 0, .int 0]) (rest := []) ⟨hx, hb, hml, hown, hts⟩ (u_Mod_throwing l dC dI cI cZ ad hj x hI H.size (if (f_Mod_in a1 (-1) 19) = 0 then 1 else 0 : Int32) (if (f_Mod_isHour a2) = 0 then 1 else 0 : Int32) 0 0) (cw_Mod_88 hts rfl rfl ⟨Nat.le_of_ble_eq_true rfl, Nat.le_of_ble_eq_true rfl⟩) ⟨PCZ.blind, va_recv hK hP (ci := 9) (q0 := 0) rfl rfl, PCZ.at hK hN hP⟩ rfl rfl hl.1 rfl (lv_room (Nat.le_of_ble_eq_true rfl)) d_Mod_inside_30 ⟨Nat.zero_le _, Nat.zero_le _⟩) hS (fun q _ h => hA H hS.1 q h) (fun q h => hA H hS.1 q h) (fun t H1 locs ht hW hB hz1 hk1 hS => ?_)
      obtain ⟨hP, -, -⟩ := hB
      rw [ht] at hP
      generalize H1 = H at hP hS ⊢
      obtain ⟨y_5, hy_5⟩ : ∃ z, z = (g_Mod_throwing x (if (f_Mod_in a1 (-1) 19) = 0 then 1 else 0 : Int32) (if (f_Mod_isHour a2) = 0 then 1 else 0 : Int32) 0 0).2 := ⟨_, rfl⟩
      rw [← hy_5] at hP
      have hty_5 : thr x y_5 := by rw [hy_5]; exact thr_throwing x (if (f_Mod_in a1 (-1) 19) = 0 then 1 else 0 : Int32) (if (f_Mod_isHour a2) = 0 then 1 else 0 : Int32) 0 0
      have hI : RIn y_5 := ri_thr hty_5 hI0
      have hD : va_D A (wR cI cZ ad y_5) := hDx _
      refine lv_if_eq (tgt := 38) hx hb d_Mod_inside_33 (by decide) (fun c_6 => ?_) (fun c_6 => ?_)
      · refine lv_iconst (v := 0) hx hb d_Mod_inside_38 (by decide) ?_
        refine lv_istore_n (lv' := [(3, .int 0), (0, .ref (ad 0)), (1, .int a1), (2, .int a2)]) hx hb d_Mod_inside_39 rfl hl (by decide) rfl (fun ls hl => ?_)
        refine lv_iconst (v := 0) hx hb d_Mod_inside_40 (by decide) ?_
        refine lv_istore (lv' := [(4, .int 0), (3, .int 0), (0, .ref (ad 0)), (1, .int a1), (2, .int a2)]) hx hb d_Mod_inside_41 hl (by decide) rfl (fun ls hl => ?_)
        have loop : ∀ (k : Nat) (n i : Int32) (z : RT) (ls : Array Slot) (H : Heap) (locs : List Loc), 0 ≤ i.toInt ∧ i.toInt ≤ (q_m_rows x).toInt ∧ (q_m_rows x).toInt - i.toInt < ((k : Nat) : Int) → thr x z → g_Mod_inside x a1 a2 = L_Mod_inside a1 a2 k n i z → va_P (dC, dI) clsA (wR cI cZ ad z) H → va_S A s.heap H locs → lv_has ls 8 [(4, .int i), (3, .int n), (0, .ref (ad 0)), (1, .int a1), (2, .int a2)] → W p l e { frames := 2, cells := 0, slots := 0, locals := 42 } s m ([.ref (ad 0), .int a1, .int a2]).toArray below meth c H locs 0 0 (MQX below (UQ (some (.int (g_Mod_inside x a1 a2).1)) (WB (dC, dI) [(cI, .int), (cZ, .boolean)] (wR cI cZ ad (g_Mod_inside x a1 a2).2)) A) ([.ref (ad 0), .int a1, .int a2]).toArray s 0 0 A) (F0 m 43 ls []) := by
          intro k
          induction k with
          | zero =>
            intro n i z ls H locs hi hz hq hP hS hl
            obtain ⟨h1, h2, h3⟩ := hi
            omega
          | succ k ih =>
            intro n i z ls H locs hi hz hq hP hS hl
            have hq := hq.trans (L_Mod_inside_s a1 a2 k n i z)
            have hI := (ri_thr hz hI0)
            have hD := hDx z
            refine lv_iload hx hb d_Mod_inside_43 (lv_at hl 0 rfl) ?_
            refine lv_aload_n hx hb d_Mod_inside_45 rfl (lv_at hl 2 rfl) ?_
            refine va_get (D := (dC, dI)) (ci := 9) (v := .int (q_m_rows z)) (C := R_Mod) (T := F_Mod) (N := 31) hx hb hbw in_Mod hown hK hP 0 rfl rfl 20 (by decide) (hbw _ w_729) (fun _ h9 => h9) rfl d_Mod_inside_46 ?_
            refine lv_icmp_ge (tgt := 161) hx hb d_Mod_inside_49 (by decide) (fun c_7 => ?_) (fun c_7 => ?_)
            · refine lv_iload_n hx hb d_Mod_inside_161 rfl (lv_at hl 1 rfl) ?_
              have hg : g_Mod_inside x a1 a2 = (n, z) := by rw [hq, if_pos c_7]
              exact W.toX (W.iret (v := n) hx hb hr (fun t ht hW => ⟨by rw [hg, pr_fst], ⟨by rw [ht, hg, pr_snd]; exact hP, va_K.moved hW.alike hK, hN.warm hW⟩, hS.F ht⟩) hS.2.2 d_Mod_inside_162)
            · refine lv_aload_n hx hb d_Mod_inside_52 rfl (lv_at hl 2 rfl) ?_
              refine va_get (D := (dC, dI)) (ci := 9) (v := .ref (ad 15)) (C := R_Mod) (T := F_Mod) (N := 31) hx hb hbw in_Mod hown hK hP 0 rfl rfl 22 (by decide) (hbw _ w_731) (fun _ h9 => h9) rfl d_Mod_inside_53 ?_
              refine lv_iload hx hb d_Mod_inside_56 (lv_at hl 0 rfl) ?_
              refine va_iald hx hb hK hP 15 0 rfl rfl (ix_row hI (ix_gez hz hi c_7).1) d_Mod_inside_58 ?_
              refine lv_istore (lv' := [(5, .int ((q_m_rowFrom z) i.toNatClampNeg)), (4, .int i), (3, .int n), (0, .ref (ad 0)), (1, .int a1), (2, .int a2)]) hx hb d_Mod_inside_59 hl (by decide) rfl (fun ls hl => ?_)
              refine lv_aload_n hx hb d_Mod_inside_61 rfl (lv_at hl 3 rfl) ?_
              refine va_get (D := (dC, dI)) (ci := 9) (v := .ref (ad 16)) (C := R_Mod) (T := F_Mod) (N := 31) hx hb hbw in_Mod hown hK hP 0 rfl rfl 23 (by decide) (hbw _ w_732) (fun _ h9 => h9) rfl d_Mod_inside_62 ?_
              refine lv_iload hx hb d_Mod_inside_65 (lv_at hl 1 rfl) ?_
              refine va_iald hx hb hK hP 16 0 rfl rfl (ix_row hI (ix_gez hz hi c_7).1) d_Mod_inside_67 ?_
              refine lv_istore (lv' := [(6, .int ((q_m_rowTo z) i.toNatClampNeg)), (5, .int ((q_m_rowFrom z) i.toNatClampNeg)), (4, .int i), (3, .int n), (0, .ref (ad 0)), (1, .int a1), (2, .int a2)]) hx hb d_Mod_inside_68 hl (by decide) rfl (fun ls hl => ?_)
              refine lv_iload hx hb d_Mod_inside_70 (lv_at hl 1 rfl) ?_
              refine lv_iload hx hb d_Mod_inside_72 (lv_at hl 0 rfl) ?_
              have jn_8 : W p l e { frames := 2, cells := 0, slots := 0, locals := 42 } s m ([.ref (ad 0), .int a1, .int a2]).toArray below meth c H locs 0 0 (MQX below (UQ (some (.int (g_Mod_inside x a1 a2).1)) (WB (dC, dI) [(cI, .int), (cZ, .boolean)] (wR cI cZ ad (g_Mod_inside x a1 a2).2)) A) ([.ref (ad 0), .int a1, .int a2]).toArray s 0 0 A) (F0 m 114 ls [.int (if ((q_m_rowTo z) i.toNatClampNeg) < ((q_m_rowFrom z) i.toNatClampNeg) then (if ((q_m_rowFrom z) i.toNatClampNeg) ≤ a2 then 1 else (if ((q_m_rowTo z) i.toNatClampNeg) < a2 then 0 else 1)) else (if a2 < ((q_m_rowFrom z) i.toNatClampNeg) then 0 else (if ((q_m_rowTo z) i.toNatClampNeg) < a2 then 0 else 1)) : Int32)]) := by
                refine lv_istore (lv' := [(7, .int (if ((q_m_rowTo z) i.toNatClampNeg) < ((q_m_rowFrom z) i.toNatClampNeg) then (if ((q_m_rowFrom z) i.toNatClampNeg) ≤ a2 then 1 else (if ((q_m_rowTo z) i.toNatClampNeg) < a2 then 0 else 1)) else (if a2 < ((q_m_rowFrom z) i.toNatClampNeg) then 0 else (if ((q_m_rowTo z) i.toNatClampNeg) < a2 then 0 else 1)) : Int32)), (6, .int ((q_m_rowTo z) i.toNatClampNeg)), (5, .int ((q_m_rowFrom z) i.toNatClampNeg)), (4, .int i), (3, .int n), (0, .ref (ad 0)), (1, .int a1), (2, .int a2)]) hx hb d_Mod_inside_114 hl (by decide) rfl (fun ls hl => ?_)
                refine lv_iload_n hx hb d_Mod_inside_116 rfl (lv_at hl 4 rfl) ?_
                refine lv_iload hx hb d_Mod_inside_117 (lv_at hl 0 rfl) ?_
                have jn_14 : W p l e { frames := 2, cells := 0, slots := 0, locals := 42 } s m ([.ref (ad 0), .int a1, .int a2]).toArray below meth c H locs 0 0 (MQX below (UQ (some (.int (g_Mod_inside x a1 a2).1)) (WB (dC, dI) [(cI, .int), (cZ, .boolean)] (wR cI cZ ad (g_Mod_inside x a1 a2).2)) A) ([.ref (ad 0), .int a1, .int a2]).toArray s 0 0 A) (F0 m 153 ls [.int (if (if ((q_m_rowTo z) i.toNatClampNeg) < ((q_m_rowFrom z) i.toNatClampNeg) then (if ((q_m_rowFrom z) i.toNatClampNeg) ≤ a2 then 1 else (if ((q_m_rowTo z) i.toNatClampNeg) < a2 then 0 else 1)) else (if a2 < ((q_m_rowFrom z) i.toNatClampNeg) then 0 else (if ((q_m_rowTo z) i.toNatClampNeg) < a2 then 0 else 1)) : Int32) = 0 then 0 else (if a1 < 0 then (q_m_rowMany z) i.toNatClampNeg else (if ((q_m_floor z) ((q_m_rowRoom z) i.toNatClampNeg).toNatClampNeg) = a1 then (q_m_rowMany z) i.toNatClampNeg else 0)) : Int32), .int n]) := by
                  refine lv_iadd hx hb d_Mod_inside_153 ?_
                  refine lv_istore_n (lv' := [(3, .int (n + (if (if ((q_m_rowTo z) i.toNatClampNeg) < ((q_m_rowFrom z) i.toNatClampNeg) then (if ((q_m_rowFrom z) i.toNatClampNeg) ≤ a2 then 1 else (if ((q_m_rowTo z) i.toNatClampNeg) < a2 then 0 else 1)) else (if a2 < ((q_m_rowFrom z) i.toNatClampNeg) then 0 else (if ((q_m_rowTo z) i.toNatClampNeg) < a2 then 0 else 1)) : Int32) = 0 then 0 else (if a1 < 0 then (q_m_rowMany z) i.toNatClampNeg else (if ((q_m_floor z) ((q_m_rowRoom z) i.toNatClampNeg).toNatClampNeg) = a1 then (q_m_rowMany z) i.toNatClampNeg else 0)) : Int32))), (7, .int (if ((q_m_rowTo z) i.toNatClampNeg) < ((q_m_rowFrom z) i.toNatClampNeg) then (if ((q_m_rowFrom z) i.toNatClampNeg) ≤ a2 then 1 else (if ((q_m_rowTo z) i.toNatClampNeg) < a2 then 0 else 1)) else (if a2 < ((q_m_rowFrom z) i.toNatClampNeg) then 0 else (if ((q_m_rowTo z) i.toNatClampNeg) < a2 then 0 else 1)) : Int32)), (6, .int ((q_m_rowTo z) i.toNatClampNeg)), (5, .int ((q_m_rowFrom z) i.toNatClampNeg)), (4, .int i), (0, .ref (ad 0)), (1, .int a1), (2, .int a2)]) hx hb d_Mod_inside_154 rfl hl (by decide) rfl (fun ls hl => ?_)
                  refine lv_iinc (v := i + 1) (lv' := [(4, .int (i + 1)), (3, .int (n + (if (if ((q_m_rowTo z) i.toNatClampNeg) < ((q_m_rowFrom z) i.toNatClampNeg) then (if ((q_m_rowFrom z) i.toNatClampNeg) ≤ a2 then 1 else (if ((q_m_rowTo z) i.toNatClampNeg) < a2 then 0 else 1)) else (if a2 < ((q_m_rowFrom z) i.toNatClampNeg) then 0 else (if ((q_m_rowTo z) i.toNatClampNeg) < a2 then 0 else 1)) : Int32) = 0 then 0 else (if a1 < 0 then (q_m_rowMany z) i.toNatClampNeg else (if ((q_m_floor z) ((q_m_rowRoom z) i.toNatClampNeg).toNatClampNeg) = a1 then (q_m_rowMany z) i.toNatClampNeg else 0)) : Int32))), (7, .int (if ((q_m_rowTo z) i.toNatClampNeg) < ((q_m_rowFrom z) i.toNatClampNeg) then (if ((q_m_rowFrom z) i.toNatClampNeg) ≤ a2 then 1 else (if ((q_m_rowTo z) i.toNatClampNeg) < a2 then 0 else 1)) else (if a2 < ((q_m_rowFrom z) i.toNatClampNeg) then 0 else (if ((q_m_rowTo z) i.toNatClampNeg) < a2 then 0 else 1)) : Int32)), (6, .int ((q_m_rowTo z) i.toNatClampNeg)), (5, .int ((q_m_rowFrom z) i.toNatClampNeg)), (0, .ref (ad 0)), (1, .int a1), (2, .int a2)]) hx hb d_Mod_inside_155 hl (k := 4) rfl rfl (by decide) rfl (fun ls hl => ?_)
                  refine lv_goto (tgt := 43) hx hb d_Mod_inside_158 (by decide) ?_
                  exact ih (n + (if (if ((q_m_rowTo z) i.toNatClampNeg) < ((q_m_rowFrom z) i.toNatClampNeg) then (if ((q_m_rowFrom z) i.toNatClampNeg) ≤ a2 then 1 else (if ((q_m_rowTo z) i.toNatClampNeg) < a2 then 0 else 1)) else (if a2 < ((q_m_rowFrom z) i.toNatClampNeg) then 0 else (if ((q_m_rowTo z) i.toNatClampNeg) < a2 then 0 else 1)) : Int32) = 0 then 0 else (if a1 < 0 then (q_m_rowMany z) i.toNatClampNeg else (if ((q_m_floor z) ((q_m_rowRoom z) i.toNatClampNeg).toNatClampNeg) = a1 then (q_m_rowMany z) i.toNatClampNeg else 0)) : Int32)) (i + 1) z ls H locs (lp_inc hi (ix_gez hz hi c_7).2 hI0.2.2.2.1.2 (by decide)) hz (by rw [hq, if_neg c_7]) hP hS (lv_sub hl [0, 1, 5, 6, 7] rfl)
                refine lv_if_eq (tgt := 152) hx hb d_Mod_inside_119 (by decide) (fun c_15 => ?_) (fun c_15 => ?_)
                · refine lv_iconst (v := 0) hx hb d_Mod_inside_152 (by decide) ?_
                  rw [show (if (if ((q_m_rowTo z) i.toNatClampNeg) < ((q_m_rowFrom z) i.toNatClampNeg) then (if ((q_m_rowFrom z) i.toNatClampNeg) ≤ a2 then 1 else (if ((q_m_rowTo z) i.toNatClampNeg) < a2 then 0 else 1)) else (if a2 < ((q_m_rowFrom z) i.toNatClampNeg) then 0 else (if ((q_m_rowTo z) i.toNatClampNeg) < a2 then 0 else 1)) : Int32) = 0 then 0 else (if a1 < 0 then (q_m_rowMany z) i.toNatClampNeg else (if ((q_m_floor z) ((q_m_rowRoom z) i.toNatClampNeg).toNatClampNeg) = a1 then (q_m_rowMany z) i.toNatClampNeg else 0)) : Int32) = 0 from by rw [if_pos c_15]] at jn_14
                  exact jn_14
                · refine lv_iload_n hx hb d_Mod_inside_122 rfl (lv_at hl 6 rfl) ?_
                  refine lv_if_lt (tgt := 142) hx hb d_Mod_inside_123 (by decide) (fun c_16 => ?_) (fun c_16 => ?_)
                  · refine lv_aload_n hx hb d_Mod_inside_142 rfl (lv_at hl 5 rfl) ?_
                    refine va_get (D := (dC, dI)) (ci := 9) (v := .ref (ad 17)) (C := R_Mod) (T := F_Mod) (N := 31) hx hb hbw in_Mod hown hK hP 0 rfl rfl 24 (by decide) (hbw _ w_733) (fun _ h9 => h9) rfl d_Mod_inside_143 ?_
                    refine lv_iload hx hb d_Mod_inside_146 (lv_at hl 3 rfl) ?_
                    refine va_iald hx hb hK hP 17 0 rfl rfl (ix_row hI (ix_gez hz hi c_7).1) d_Mod_inside_148 ?_
                    refine lv_goto (tgt := 153) hx hb d_Mod_inside_149 (by decide) ?_
                    rw [show (if (if ((q_m_rowTo z) i.toNatClampNeg) < ((q_m_rowFrom z) i.toNatClampNeg) then (if ((q_m_rowFrom z) i.toNatClampNeg) ≤ a2 then 1 else (if ((q_m_rowTo z) i.toNatClampNeg) < a2 then 0 else 1)) else (if a2 < ((q_m_rowFrom z) i.toNatClampNeg) then 0 else (if ((q_m_rowTo z) i.toNatClampNeg) < a2 then 0 else 1)) : Int32) = 0 then 0 else (if a1 < 0 then (q_m_rowMany z) i.toNatClampNeg else (if ((q_m_floor z) ((q_m_rowRoom z) i.toNatClampNeg).toNatClampNeg) = a1 then (q_m_rowMany z) i.toNatClampNeg else 0)) : Int32) = (q_m_rowMany z) i.toNatClampNeg from by rw [if_neg c_15, if_pos c_16]] at jn_14
                    exact jn_14
                  · refine lv_aload_n hx hb d_Mod_inside_126 rfl (lv_at hl 5 rfl) ?_
                    refine va_get (D := (dC, dI)) (ci := 9) (v := .ref (ad 1)) (C := R_Mod) (T := F_Mod) (N := 31) hx hb hbw in_Mod hown hK hP 0 rfl rfl 2 (by decide) (hbw _ w_711) (fun _ h9 => h9) rfl d_Mod_inside_127 ?_
                    refine lv_aload_n hx hb d_Mod_inside_130 rfl (lv_at hl 5 rfl) ?_
                    refine va_get (D := (dC, dI)) (ci := 9) (v := .ref (ad 14)) (C := R_Mod) (T := F_Mod) (N := 31) hx hb hbw in_Mod hown hK hP 0 rfl rfl 21 (by decide) (hbw _ w_730) (fun _ h9 => h9) rfl d_Mod_inside_131 ?_
                    refine lv_iload hx hb d_Mod_inside_134 (lv_at hl 3 rfl) ?_
                    refine va_iald hx hb hK hP 14 0 rfl rfl (ix_row hI (ix_gez hz hi c_7).1) d_Mod_inside_136 ?_
                    refine va_iald hx hb hK hP 1 0 rfl rfl (ix_rowRoom hI (ix_gez hz hi c_7).1) d_Mod_inside_137 ?_
                    refine lv_iload_n hx hb d_Mod_inside_138 rfl (lv_at hl 6 rfl) ?_
                    refine lv_icmp_ne (tgt := 152) hx hb d_Mod_inside_139 (by decide) (fun c_17 => ?_) (fun c_17 => ?_)
                    · refine lv_iconst (v := 0) hx hb d_Mod_inside_152 (by decide) ?_
                      rw [show (if (if ((q_m_rowTo z) i.toNatClampNeg) < ((q_m_rowFrom z) i.toNatClampNeg) then (if ((q_m_rowFrom z) i.toNatClampNeg) ≤ a2 then 1 else (if ((q_m_rowTo z) i.toNatClampNeg) < a2 then 0 else 1)) else (if a2 < ((q_m_rowFrom z) i.toNatClampNeg) then 0 else (if ((q_m_rowTo z) i.toNatClampNeg) < a2 then 0 else 1)) : Int32) = 0 then 0 else (if a1 < 0 then (q_m_rowMany z) i.toNatClampNeg else (if ((q_m_floor z) ((q_m_rowRoom z) i.toNatClampNeg).toNatClampNeg) = a1 then (q_m_rowMany z) i.toNatClampNeg else 0)) : Int32) = 0 from by rw [if_neg c_15, if_neg c_16, if_neg c_17]] at jn_14
                      exact jn_14
                    · refine lv_aload_n hx hb d_Mod_inside_142 rfl (lv_at hl 5 rfl) ?_
                      refine va_get (D := (dC, dI)) (ci := 9) (v := .ref (ad 17)) (C := R_Mod) (T := F_Mod) (N := 31) hx hb hbw in_Mod hown hK hP 0 rfl rfl 24 (by decide) (hbw _ w_733) (fun _ h9 => h9) rfl d_Mod_inside_143 ?_
                      refine lv_iload hx hb d_Mod_inside_146 (lv_at hl 3 rfl) ?_
                      refine va_iald hx hb hK hP 17 0 rfl rfl (ix_row hI (ix_gez hz hi c_7).1) d_Mod_inside_148 ?_
                      refine lv_goto (tgt := 153) hx hb d_Mod_inside_149 (by decide) ?_
                      rw [show (if (if ((q_m_rowTo z) i.toNatClampNeg) < ((q_m_rowFrom z) i.toNatClampNeg) then (if ((q_m_rowFrom z) i.toNatClampNeg) ≤ a2 then 1 else (if ((q_m_rowTo z) i.toNatClampNeg) < a2 then 0 else 1)) else (if a2 < ((q_m_rowFrom z) i.toNatClampNeg) then 0 else (if ((q_m_rowTo z) i.toNatClampNeg) < a2 then 0 else 1)) : Int32) = 0 then 0 else (if a1 < 0 then (q_m_rowMany z) i.toNatClampNeg else (if ((q_m_floor z) ((q_m_rowRoom z) i.toNatClampNeg).toNatClampNeg) = a1 then (q_m_rowMany z) i.toNatClampNeg else 0)) : Int32) = (q_m_rowMany z) i.toNatClampNeg from by rw [if_neg c_15, if_neg c_16, if_pos c_17]] at jn_14
                      exact jn_14
              refine lv_icmp_gt (tgt := 97) hx hb d_Mod_inside_74 (by decide) (fun c_9 => ?_) (fun c_9 => ?_)
              · refine lv_iload_n hx hb d_Mod_inside_97 rfl (lv_at hl 6 rfl) ?_
                refine lv_iload hx hb d_Mod_inside_98 (lv_at hl 1 rfl) ?_
                refine lv_icmp_ge (tgt := 109) hx hb d_Mod_inside_100 (by decide) (fun c_10 => ?_) (fun c_10 => ?_)
                · refine lv_iconst (v := 1) hx hb d_Mod_inside_109 (by decide) ?_
                  refine lv_goto (tgt := 114) hx hb d_Mod_inside_110 (by decide) ?_
                  rw [show (if ((q_m_rowTo z) i.toNatClampNeg) < ((q_m_rowFrom z) i.toNatClampNeg) then (if ((q_m_rowFrom z) i.toNatClampNeg) ≤ a2 then 1 else (if ((q_m_rowTo z) i.toNatClampNeg) < a2 then 0 else 1)) else (if a2 < ((q_m_rowFrom z) i.toNatClampNeg) then 0 else (if ((q_m_rowTo z) i.toNatClampNeg) < a2 then 0 else 1)) : Int32) = 1 from by rw [if_pos c_9, if_pos c_10]] at jn_8
                  exact jn_8
                · refine lv_iload_n hx hb d_Mod_inside_103 rfl (lv_at hl 6 rfl) ?_
                  refine lv_iload hx hb d_Mod_inside_104 (lv_at hl 0 rfl) ?_
                  refine lv_icmp_gt (tgt := 113) hx hb d_Mod_inside_106 (by decide) (fun c_11 => ?_) (fun c_11 => ?_)
                  · refine lv_iconst (v := 0) hx hb d_Mod_inside_113 (by decide) ?_
                    rw [show (if ((q_m_rowTo z) i.toNatClampNeg) < ((q_m_rowFrom z) i.toNatClampNeg) then (if ((q_m_rowFrom z) i.toNatClampNeg) ≤ a2 then 1 else (if ((q_m_rowTo z) i.toNatClampNeg) < a2 then 0 else 1)) else (if a2 < ((q_m_rowFrom z) i.toNatClampNeg) then 0 else (if ((q_m_rowTo z) i.toNatClampNeg) < a2 then 0 else 1)) : Int32) = 0 from by rw [if_pos c_9, if_neg c_10, if_pos c_11]] at jn_8
                    exact jn_8
                  · refine lv_iconst (v := 1) hx hb d_Mod_inside_109 (by decide) ?_
                    refine lv_goto (tgt := 114) hx hb d_Mod_inside_110 (by decide) ?_
                    rw [show (if ((q_m_rowTo z) i.toNatClampNeg) < ((q_m_rowFrom z) i.toNatClampNeg) then (if ((q_m_rowFrom z) i.toNatClampNeg) ≤ a2 then 1 else (if ((q_m_rowTo z) i.toNatClampNeg) < a2 then 0 else 1)) else (if a2 < ((q_m_rowFrom z) i.toNatClampNeg) then 0 else (if ((q_m_rowTo z) i.toNatClampNeg) < a2 then 0 else 1)) : Int32) = 1 from by rw [if_pos c_9, if_neg c_10, if_neg c_11]] at jn_8
                    exact jn_8
              · refine lv_iload_n hx hb d_Mod_inside_77 rfl (lv_at hl 6 rfl) ?_
                refine lv_iload hx hb d_Mod_inside_78 (lv_at hl 1 rfl) ?_
                refine lv_icmp_lt (tgt := 93) hx hb d_Mod_inside_80 (by decide) (fun c_12 => ?_) (fun c_12 => ?_)
                · refine lv_iconst (v := 0) hx hb d_Mod_inside_93 (by decide) ?_
                  refine lv_goto (tgt := 114) hx hb d_Mod_inside_94 (by decide) ?_
                  rw [show (if ((q_m_rowTo z) i.toNatClampNeg) < ((q_m_rowFrom z) i.toNatClampNeg) then (if ((q_m_rowFrom z) i.toNatClampNeg) ≤ a2 then 1 else (if ((q_m_rowTo z) i.toNatClampNeg) < a2 then 0 else 1)) else (if a2 < ((q_m_rowFrom z) i.toNatClampNeg) then 0 else (if ((q_m_rowTo z) i.toNatClampNeg) < a2 then 0 else 1)) : Int32) = 0 from by rw [if_neg c_9, if_pos c_12]] at jn_8
                  exact jn_8
                · refine lv_iload_n hx hb d_Mod_inside_83 rfl (lv_at hl 6 rfl) ?_
                  refine lv_iload hx hb d_Mod_inside_84 (lv_at hl 0 rfl) ?_
                  refine lv_icmp_gt (tgt := 93) hx hb d_Mod_inside_86 (by decide) (fun c_13 => ?_) (fun c_13 => ?_)
                  · refine lv_iconst (v := 0) hx hb d_Mod_inside_93 (by decide) ?_
                    refine lv_goto (tgt := 114) hx hb d_Mod_inside_94 (by decide) ?_
                    rw [show (if ((q_m_rowTo z) i.toNatClampNeg) < ((q_m_rowFrom z) i.toNatClampNeg) then (if ((q_m_rowFrom z) i.toNatClampNeg) ≤ a2 then 1 else (if ((q_m_rowTo z) i.toNatClampNeg) < a2 then 0 else 1)) else (if a2 < ((q_m_rowFrom z) i.toNatClampNeg) then 0 else (if ((q_m_rowTo z) i.toNatClampNeg) < a2 then 0 else 1)) : Int32) = 0 from by rw [if_neg c_9, if_neg c_12, if_pos c_13]] at jn_8
                    exact jn_8
                  · refine lv_iconst (v := 1) hx hb d_Mod_inside_89 (by decide) ?_
                    refine lv_goto (tgt := 114) hx hb d_Mod_inside_90 (by decide) ?_
                    rw [show (if ((q_m_rowTo z) i.toNatClampNeg) < ((q_m_rowFrom z) i.toNatClampNeg) then (if ((q_m_rowFrom z) i.toNatClampNeg) ≤ a2 then 1 else (if ((q_m_rowTo z) i.toNatClampNeg) < a2 then 0 else 1)) else (if a2 < ((q_m_rowFrom z) i.toNatClampNeg) then 0 else (if ((q_m_rowTo z) i.toNatClampNeg) < a2 then 0 else 1)) : Int32) = 1 from by rw [if_neg c_9, if_neg c_12, if_neg c_13]] at jn_8
                    exact jn_8
        exact loop 61 0 0 y_5 ls H locs (lp_0 (N := 60) hI0.2.2.2.1 (by decide)) (show thr x y_5 from hty_5) (by rw [hy_5]; unfold g_Mod_inside; rw [if_pos c_6]) hP hS (lv_sub hl [0, 1, 2, 3, 4] rfl)
      · refine lv_iconst (v := 0) hx hb d_Mod_inside_36 (by decide) ?_
        subst hy_5
        have hg : g_Mod_inside x a1 a2 = (0, ((g_Mod_throwing x (if (f_Mod_in a1 (-1) 19) = 0 then 1 else 0 : Int32) (if (f_Mod_isHour a2) = 0 then 1 else 0 : Int32) 0 0).2)) := by unfold g_Mod_inside; rw [if_neg c_6]
        exact W.toX (W.iret (v := 0) hx hb hr (fun t ht hW => ⟨by rw [hg, pr_fst], ⟨by rw [ht, hg, pr_snd]; exact hP, va_K.moved hW.alike hK, hN.warm hW⟩, hS.F ht⟩) hS.2.2 d_Mod_inside_37)
    refine lv_if_ne (tgt := 27) hx hb d_Mod_inside_20 (by decide) (fun c_4 => ?_) (fun c_4 => ?_)
    · refine lv_iconst (v := 0) hx hb d_Mod_inside_27 (by decide) ?_
      rw [show (if (f_Mod_isHour a2) = 0 then 1 else 0 : Int32) = 0 from by rw [if_neg c_4]] at jn_3
      exact jn_3
    · refine lv_iconst (v := 1) hx hb d_Mod_inside_23 (by decide) ?_
      refine lv_goto (tgt := 28) hx hb d_Mod_inside_24 (by decide) ?_
      rw [show (if (f_Mod_isHour a2) = 0 then 1 else 0 : Int32) = 1 from by rw [if_pos c_4]] at jn_3
      exact jn_3
  refine lv_if_ne (tgt := 15) hx hb d_Mod_inside_8 (by decide) (fun c_2 => ?_) (fun c_2 => ?_)
  · refine lv_iconst (v := 0) hx hb d_Mod_inside_15 (by decide) ?_
    rw [show (if (f_Mod_in a1 (-1) 19) = 0 then 1 else 0 : Int32) = 0 from by rw [if_neg c_2]] at jn_1
    exact jn_1
  · refine lv_iconst (v := 1) hx hb d_Mod_inside_11 (by decide) ?_
    refine lv_goto (tgt := 16) hx hb d_Mod_inside_12 (by decide) ?_
    rw [show (if (f_Mod_in a1 (-1) 19) = 0 then 1 else 0 : Int32) = 1 from by rw [if_pos c_2]] at jn_1
    exact jn_1
