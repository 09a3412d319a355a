/-- a is the number of a door -/
def dv (x : RT) (a : Int32) : Prop := 0 ≤ a.toInt ∧ a.toInt < (q_m_doors x).toInt
theorem cl_nn {a : Int32} (h : 0 ≤ a.toInt) : ((a.toNatClampNeg : Nat) : Int) = a.toInt := Int.toNat_of_nonneg h
theorem dv_in {x : RT} {a : Int32} (hI : RIn x) (h : dv x a) : vp_in a 80 := vp_in_iff.mpr ⟨h.1, by have := hI.2.1.2; have := h.2; omega⟩
theorem dv_row {x : RT} {a : Int32} (hI : RIn x) (h : dv x a) : (0 ≤ (q_m_from x a.toNatClampNeg).toInt ∧ (q_m_from x a.toNatClampNeg).toInt < (q_m_rooms x).toInt) ∧ (0 ≤ (q_m_to x a.toNatClampNeg).toInt ∧ (q_m_to x a.toNatClampNeg).toInt < (q_m_rooms x).toInt) ∧ (0 ≤ (q_m_lock x a.toNatClampNeg).toInt ∧ (q_m_lock x a.toNatClampNeg).toInt ≤ 30) := hI.2.2.2.2.2.2.1 a.toNatClampNeg (by rw [cl_nn h.1]; exact h.2)
theorem dv_lock {x : RT} {a : Int32} (hI : RIn x) (h : dv x a) : vp_in (q_m_lock x a.toNatClampNeg) 31 := vp_in_iff.mpr (by have := (dv_row hI h).2.2; omega)
theorem dv_from {x : RT} {a : Int32} (hI : RIn x) (h : dv x a) : vp_in (q_m_from x a.toNatClampNeg) 40 := vp_in_iff.mpr (by have := (dv_row hI h).1; have := hI.1; omega)
theorem dv_to {x : RT} {a : Int32} (hI : RIn x) (h : dv x a) : vp_in (q_m_to x a.toNatClampNeg) 40 := vp_in_iff.mpr (by have := (dv_row hI h).2.1; have := hI.1; omega)
theorem dv_ge {x : RT} {i : Int32} {k : Nat} (hi : 0 ≤ i.toInt ∧ i.toInt ≤ (q_m_doors x).toInt ∧ (q_m_doors x).toInt - i.toInt < ((k + 1 : Nat) : Int)) (hc : ¬ q_m_doors x ≤ i) : dv x i := by
  rw [Int32.le_iff_toInt_le] at hc
  exact ⟨hi.1, by omega⟩
theorem ix_nn {a : Int32} {N : Nat} (h : ¬ a < 0) (h2 : a.toInt < N) : vp_in a N := vp_in_iff.mpr (by
  rw [Int32.lt_iff_toInt_lt] at h
  have e0 : (0 : Int32).toInt = 0 := rfl
  omega)
def f_Mod_isPassed (x : RT) (a1 : Int32) : Int32 := if ((q_m_lock x) a1.toNatClampNeg) = 0 then 1 else (if ((q_m_hand x) ((q_m_lock x) a1.toNatClampNeg).toNatClampNeg) = 0 then 0 else 1)
set_option maxHeartbeats 400000 in
set_option maxRecDepth 100000 in
theorem c_Mod_isPassed (l : Launch) (dC : Nat → ClassId) (dI : Nat → Nat → Nat) (cI cZ : ClassId) (ad : Nat → Nat) (x : RT) (hI : RIn x) (a1 : Int32) (hd : dv x a1) : MX l y_Mod_isPassed (Cond.code y_Mod_isPassed b_Mod_isPassed 2 (some .boolean) :: BW) { frames := 0, cells := 0, slots := 0, locals := 0 } (PC (dC, dI) [(cI, .int), (cZ, .boolean)] (wR cI cZ ad x) [.ref (ad 0), .int a1]) (PQ (some (.int (f_Mod_isPassed x a1)))) 0 0 (fun _ => False) := by
  refine MX.ofW (cc := b_Mod_isPassed) (maxL := 2) (ret := (some .boolean)) (by decide) rfl ?_
  intro p e s m args below meth c s₁ B hml hex hv
  obtain ⟨rfl, hP, hK, hN⟩ := hv
  have hx := B.exec
  have hb := B.bytes
  have hr := B.returns
  have hts := atoms_spec (ws := Cond.code y_Mod_isPassed b_Mod_isPassed 2 (some .boolean) :: BW) B.pre
  have hbw : ∀ w ∈ BW, w.before ([.ref (ad 0), .int a1]).toArray s = true := fun w h => hts w (List.mem_cons_of_mem _ h)
  have hown : s.vm.findClass "PlanRowsModel" = some m.cls := findClass_of_methodNamed B.named
  have hlocks := B.notSynchronized
  have hl := lv_entry ([.ref (ad 0), .int a1]) (n := 2) (Nat.le_of_ble_eq_true rfl)
  rw [lg_entry_eq]
  generalize (lg_sl ([.ref (ad 0), .int a1]) ++ List.replicate (2 - (lg_sl ([.ref (ad 0), .int a1])).length) Slot.unset).toArray = ls at hl ⊢
  have hl : lv_has ls 2 [(0, .ref (ad 0)), (1, .int a1)] := hl
  refine lv_aload_n hx hb d_Mod_isPassed_0 rfl (lv_at hl 0 rfl) ?_
  refine va_get (D := (dC, dI)) (ci := 9) (v := .ref (ad 7)) (C := R_Mod) (T := F_Mod) (N := 31) hx hb hbw in_Mod hown hK hP 0 rfl rfl 9 (by decide) (hbw _ w_718) (fun _ h9 => h9) rfl d_Mod_isPassed_1 ?_
  refine lv_iload_n hx hb d_Mod_isPassed_4 rfl (lv_at hl 1 rfl) ?_
  refine va_iald hx hb hK hP 7 0 rfl rfl (dv_in hI hd) d_Mod_isPassed_5 ?_
  refine lv_if_eq (tgt := 23) hx hb d_Mod_isPassed_6 (by decide) (fun c_1 => ?_) (fun c_1 => ?_)
  · refine lv_iconst (v := 1) hx hb d_Mod_isPassed_23 (by decide) ?_
    refine lv_goto (tgt := 28) hx hb d_Mod_isPassed_24 (by decide) ?_
    exact W.toX (W.zret (v := 1) (ty := .boolean) hx hb hr (by rfl) (fun t ht hW => ⟨by rw [show f_Mod_isPassed x a1 = 1 from by unfold f_Mod_isPassed; rw [if_pos c_1]], ht⟩) (fun q hq => by cases hq) d_Mod_isPassed_28)
  · refine lv_aload_n hx hb d_Mod_isPassed_9 rfl (lv_at hl 0 rfl) ?_
    refine va_get (D := (dC, dI)) (ci := 9) (v := .ref (ad 8)) (C := R_Mod) (T := F_Mod) (N := 31) hx hb hbw in_Mod hown hK hP 0 rfl rfl 10 (by decide) (hbw _ w_719) (fun _ h9 => h9) rfl d_Mod_isPassed_10 ?_
    refine lv_aload_n hx hb d_Mod_isPassed_13 rfl (lv_at hl 0 rfl) ?_
    refine va_get (D := (dC, dI)) (ci := 9) (v := .ref (ad 7)) (C := R_Mod) (T := F_Mod) (N := 31) hx hb hbw in_Mod hown hK hP 0 rfl rfl 9 (by decide) (hbw _ w_718) (fun _ h9 => h9) rfl d_Mod_isPassed_14 ?_
    refine lv_iload_n hx hb d_Mod_isPassed_17 rfl (lv_at hl 1 rfl) ?_
    refine va_iald hx hb hK hP 7 0 rfl rfl (dv_in hI hd) d_Mod_isPassed_18 ?_
    refine va_zald hx hb hK hP 8 1 rfl rfl (dv_lock hI hd) d_Mod_isPassed_19 ?_
    refine lv_if_eq (tgt := 27) hx hb d_Mod_isPassed_20 (by decide) (fun c_2 => ?_) (fun c_2 => ?_)
    · refine lv_iconst (v := 0) hx hb d_Mod_isPassed_27 (by decide) ?_
      exact W.toX (W.zret (v := 0) (ty := .boolean) hx hb hr (by rfl) (fun t ht hW => ⟨by rw [show f_Mod_isPassed x a1 = 0 from by unfold f_Mod_isPassed; rw [if_neg c_1, if_pos c_2]], ht⟩) (fun q hq => by cases hq) d_Mod_isPassed_28)
    · refine lv_iconst (v := 1) hx hb d_Mod_isPassed_23 (by decide) ?_
      refine lv_goto (tgt := 28) hx hb d_Mod_isPassed_24 (by decide) ?_
      exact W.toX (W.zret (v := 1) (ty := .boolean) hx hb hr (by rfl) (fun t ht hW => ⟨by rw [show f_Mod_isPassed x a1 = 1 from by unfold f_Mod_isPassed; rw [if_neg c_1, if_neg c_2]], ht⟩) (fun q hq => by cases hq) d_Mod_isPassed_28)
def f_Mod_costOf (x : RT) (a1 : Int32) : Int32 := (100 * ((q_m_metres x) a1.toNatClampNeg)) + (if ((q_m_floor x) ((q_m_from x) a1.toNatClampNeg).toNatClampNeg) = ((q_m_floor x) ((q_m_to x) a1.toNatClampNeg).toNatClampNeg) then 0 else 1 : Int32)
set_option maxHeartbeats 400000 in
set_option maxRecDepth 100000 in
theorem c_Mod_costOf (l : Launch) (dC : Nat → ClassId) (dI : Nat → Nat → Nat) (cI cZ : ClassId) (ad : Nat → Nat) (x : RT) (hI : RIn x) (a1 : Int32) (hd : dv x a1) : MX l y_Mod_costOf (Cond.code y_Mod_costOf b_Mod_costOf 2 (some .int) :: BW) { frames := 0, cells := 0, slots := 0, locals := 0 } (PC (dC, dI) [(cI, .int), (cZ, .boolean)] (wR cI cZ ad x) [.ref (ad 0), .int a1]) (PQ (some (.int (f_Mod_costOf x a1)))) 0 0 (fun _ => False) := by
  refine MX.ofW (cc := b_Mod_costOf) (maxL := 2) (ret := (some .int)) (by decide) rfl ?_
  intro p e s m args below meth c s₁ B hml hex hv
  obtain ⟨rfl, hP, hK, hN⟩ := hv
  have hx := B.exec
  have hb := B.bytes
  have hr := B.returns
  have hts := atoms_spec (ws := Cond.code y_Mod_costOf b_Mod_costOf 2 (some .int) :: BW) B.pre
  have hbw : ∀ w ∈ BW, w.before ([.ref (ad 0), .int a1]).toArray s = true := fun w h => hts w (List.mem_cons_of_mem _ h)
  have hown : s.vm.findClass "PlanRowsModel" = some m.cls := findClass_of_methodNamed B.named
  have hlocks := B.notSynchronized
  have hl := lv_entry ([.ref (ad 0), .int a1]) (n := 2) (Nat.le_of_ble_eq_true rfl)
  rw [lg_entry_eq]
  generalize (lg_sl ([.ref (ad 0), .int a1]) ++ List.replicate (2 - (lg_sl ([.ref (ad 0), .int a1])).length) Slot.unset).toArray = ls at hl ⊢
  have hl : lv_has ls 2 [(0, .ref (ad 0)), (1, .int a1)] := hl
  refine lv_bipush (v := 100) hx hb d_Mod_costOf_0 (by decide) ?_
  refine lv_aload_n hx hb d_Mod_costOf_2 rfl (lv_at hl 0 rfl) ?_
  refine va_get (D := (dC, dI)) (ci := 9) (v := .ref (ad 6)) (C := R_Mod) (T := F_Mod) (N := 31) hx hb hbw in_Mod hown hK hP 0 rfl rfl 8 (by decide) (hbw _ w_717) (fun _ h9 => h9) rfl d_Mod_costOf_3 ?_
  refine lv_iload_n hx hb d_Mod_costOf_6 rfl (lv_at hl 1 rfl) ?_
  refine va_iald hx hb hK hP 6 0 rfl rfl (dv_in hI hd) d_Mod_costOf_7 ?_
  refine lv_imul hx hb d_Mod_costOf_8 ?_
  refine lv_aload_n hx hb d_Mod_costOf_9 rfl (lv_at hl 0 rfl) ?_
  refine va_get (D := (dC, dI)) (ci := 9) (v := .ref (ad 1)) (C := R_Mod) (T := F_Mod) (N := 31) hx hb hbw in_Mod hown hK hP 0 rfl rfl 2 (by decide) (hbw _ w_711) (fun _ h9 => h9) rfl d_Mod_costOf_10 ?_
  refine lv_aload_n hx hb d_Mod_costOf_13 rfl (lv_at hl 0 rfl) ?_
  refine va_get (D := (dC, dI)) (ci := 9) (v := .ref (ad 4)) (C := R_Mod) (T := F_Mod) (N := 31) hx hb hbw in_Mod hown hK hP 0 rfl rfl 6 (by decide) (hbw _ w_715) (fun _ h9 => h9) rfl d_Mod_costOf_14 ?_
  refine lv_iload_n hx hb d_Mod_costOf_17 rfl (lv_at hl 1 rfl) ?_
  refine va_iald hx hb hK hP 4 0 rfl rfl (dv_in hI hd) d_Mod_costOf_18 ?_
  refine va_iald hx hb hK hP 1 0 rfl rfl (dv_from hI hd) d_Mod_costOf_19 ?_
  refine lv_aload_n hx hb d_Mod_costOf_20 rfl (lv_at hl 0 rfl) ?_
  refine va_get (D := (dC, dI)) (ci := 9) (v := .ref (ad 1)) (C := R_Mod) (T := F_Mod) (N := 31) hx hb hbw in_Mod hown hK hP 0 rfl rfl 2 (by decide) (hbw _ w_711) (fun _ h9 => h9) rfl d_Mod_costOf_21 ?_
  refine lv_aload_n hx hb d_Mod_costOf_24 rfl (lv_at hl 0 rfl) ?_
  refine va_get (D := (dC, dI)) (ci := 9) (v := .ref (ad 5)) (C := R_Mod) (T := F_Mod) (N := 31) hx hb hbw in_Mod hown hK hP 0 rfl rfl 7 (by decide) (hbw _ w_716) (fun _ h9 => h9) rfl d_Mod_costOf_25 ?_
  refine lv_iload_n hx hb d_Mod_costOf_28 rfl (lv_at hl 1 rfl) ?_
  refine va_iald hx hb hK hP 5 0 rfl rfl (dv_in hI hd) d_Mod_costOf_29 ?_
  refine va_iald hx hb hK hP 1 0 rfl rfl (dv_to hI hd) d_Mod_costOf_30 ?_
  have jn_1 : W p l e { frames := 0, cells := 0, slots := 0, locals := 0 } s m ([.ref (ad 0), .int a1]).toArray below meth c s.heap [] 0 0 (MQX below (PQ (some (.int (f_Mod_costOf x a1)))) ([.ref (ad 0), .int a1]).toArray s 0 0 (fun _ => False)) (F0 m 39 ls [.int (if ((q_m_floor x) ((q_m_from x) a1.toNatClampNeg).toNatClampNeg) = ((q_m_floor x) ((q_m_to x) a1.toNatClampNeg).toNatClampNeg) then 0 else 1 : Int32), .int (100 * ((q_m_metres x) a1.toNatClampNeg))]) := by
    refine lv_iadd hx hb d_Mod_costOf_39 ?_
    exact W.toX (W.iret (v := (100 * ((q_m_metres x) a1.toNatClampNeg)) + (if ((q_m_floor x) ((q_m_from x) a1.toNatClampNeg).toNatClampNeg) = ((q_m_floor x) ((q_m_to x) a1.toNatClampNeg).toNatClampNeg) then 0 else 1 : Int32)) hx hb hr (fun t ht hW => ⟨by rw [show f_Mod_costOf x a1 = (100 * ((q_m_metres x) a1.toNatClampNeg)) + (if ((q_m_floor x) ((q_m_from x) a1.toNatClampNeg).toNatClampNeg) = ((q_m_floor x) ((q_m_to x) a1.toNatClampNeg).toNatClampNeg) then 0 else 1 : Int32) from rfl], ht⟩) (fun q hq => by cases hq) d_Mod_costOf_40)
  refine lv_icmp_ne (tgt := 38) hx hb d_Mod_costOf_31 (by decide) (fun c_2 => ?_) (fun c_2 => ?_)
  · refine lv_iconst (v := 1) hx hb d_Mod_costOf_38 (by decide) ?_
    rw [show (if ((q_m_floor x) ((q_m_from x) a1.toNatClampNeg).toNatClampNeg) = ((q_m_floor x) ((q_m_to x) a1.toNatClampNeg).toNatClampNeg) then 0 else 1 : Int32) = 1 from by rw [if_neg c_2]] at jn_1
    exact jn_1
  · refine lv_iconst (v := 0) hx hb d_Mod_costOf_34 (by decide) ?_
    refine lv_goto (tgt := 39) hx hb d_Mod_costOf_35 (by decide) ?_
    rw [show (if ((q_m_floor x) ((q_m_from x) a1.toNatClampNeg).toNatClampNeg) = ((q_m_floor x) ((q_m_to x) a1.toNatClampNeg).toNatClampNeg) then 0 else 1 : Int32) = 0 from by rw [if_pos c_2]] at jn_1
    exact jn_1
def L_Mod_detectorOf (x : RT) (a1 a2 : Int32) : Nat → Int32 → Int32 → Int32
  | 0, _, _ => 0
  | k + 1, fd, i => if (q_m_detectors x) ≤ i then fd else (if ((q_m_loop x) i.toNatClampNeg) = a1 then (if ((q_m_number x) i.toNatClampNeg) = a2 then L_Mod_detectorOf x a1 a2 k i (i + 1) else L_Mod_detectorOf x a1 a2 k fd (i + 1)) else L_Mod_detectorOf x a1 a2 k fd (i + 1))
theorem L_Mod_detectorOf_s (x : RT) (a1 a2 : Int32) (k : Nat) (fd i : Int32) : L_Mod_detectorOf x a1 a2 (k + 1) fd i = if (q_m_detectors x) ≤ i then fd else (if ((q_m_loop x) i.toNatClampNeg) = a1 then (if ((q_m_number x) i.toNatClampNeg) = a2 then L_Mod_detectorOf x a1 a2 k i (i + 1) else L_Mod_detectorOf x a1 a2 k fd (i + 1)) else L_Mod_detectorOf x a1 a2 k fd (i + 1)) := rfl
def f_Mod_detectorOf (x : RT) (a1 a2 : Int32) : Int32 := L_Mod_detectorOf x a1 a2 101 (-1) 0
set_option maxHeartbeats 400000 in
set_option maxRecDepth 100000 in
theorem c_Mod_detectorOf (l : Launch) (dC : Nat → ClassId) (dI : Nat → Nat → Nat) (cI cZ : ClassId) (ad : Nat → Nat) (x : RT) (hI : RIn x) (a1 a2 : Int32) : MX l y_Mod_detectorOf (Cond.code y_Mod_detectorOf b_Mod_detectorOf 5 (some .int) :: BW) { frames := 0, cells := 0, slots := 0, locals := 0 } (PC (dC, dI) [(cI, .int), (cZ, .boolean)] (wR cI cZ ad x) [.ref (ad 0), .int a1, .int a2]) (PQ (some (.int (f_Mod_detectorOf x a1 a2)))) 0 0 (fun _ => False) := by
  refine MX.ofW (cc := b_Mod_detectorOf) (maxL := 5) (ret := (some .int)) (by decide) rfl ?_
  intro p e s m args below meth c s₁ B hml hex hv
  obtain ⟨rfl, hP, hK, hN⟩ := hv
  have hx := B.exec
  have hb := B.bytes
  have hr := B.returns
  have hts := atoms_spec (ws := Cond.code y_Mod_detectorOf b_Mod_detectorOf 5 (some .int) :: BW) B.pre
  have hbw : ∀ w ∈ BW, w.before ([.ref (ad 0), .int a1, .int a2]).toArray s = true := fun w h => hts w (List.mem_cons_of_mem _ h)
  have hown : s.vm.findClass "PlanRowsModel" = some m.cls := findClass_of_methodNamed B.named
  have hlocks := B.notSynchronized
  have hl := lv_entry ([.ref (ad 0), .int a1, .int a2]) (n := 5) (Nat.le_of_ble_eq_true rfl)
  rw [lg_entry_eq]
  generalize (lg_sl ([.ref (ad 0), .int a1, .int a2]) ++ List.replicate (5 - (lg_sl ([.ref (ad 0), .int a1, .int a2])).length) Slot.unset).toArray = ls at hl ⊢
  have hl : lv_has ls 5 [(0, .ref (ad 0)), (1, .int a1), (2, .int a2)] := hl
  refine lv_iconst (v := (-1)) hx hb d_Mod_detectorOf_0 (by decide) ?_
  refine lv_istore_n (lv' := [(3, .int (-1)), (0, .ref (ad 0)), (1, .int a1), (2, .int a2)]) hx hb d_Mod_detectorOf_1 rfl hl (by decide) rfl (fun ls hl => ?_)
  refine lv_iconst (v := 0) hx hb d_Mod_detectorOf_2 (by decide) ?_
  refine lv_istore (lv' := [(4, .int 0), (3, .int (-1)), (0, .ref (ad 0)), (1, .int a1), (2, .int a2)]) hx hb d_Mod_detectorOf_3 hl (by decide) rfl (fun ls hl => ?_)
  have loop : ∀ (k : Nat) (fd i : Int32) (ls : Array Slot), 0 ≤ i.toInt ∧ i.toInt ≤ (q_m_detectors x).toInt ∧ (q_m_detectors x).toInt - i.toInt < ((k : Nat) : Int) → f_Mod_detectorOf x a1 a2 = L_Mod_detectorOf x a1 a2 k fd i → lv_has ls 5 [(4, .int i), (3, .int fd), (0, .ref (ad 0)), (1, .int a1), (2, .int a2)] → W p l e { frames := 0, cells := 0, slots := 0, locals := 0 } s m ([.ref (ad 0), .int a1, .int a2]).toArray below meth c s.heap [] 0 0 (MQX below (PQ (some (.int (f_Mod_detectorOf x a1 a2)))) ([.ref (ad 0), .int a1, .int a2]).toArray s 0 0 (fun _ => False)) (F0 m 5 ls []) := by
    intro k
    induction k with
    | zero =>
      intro fd i ls hi hq hl
      obtain ⟨h1, h2, h3⟩ := hi
      omega
    | succ k ih =>
      intro fd i ls hi hq hl
      have hq := hq.trans (L_Mod_detectorOf_s x a1 a2 k fd i)
      refine lv_iload hx hb d_Mod_detectorOf_5 (lv_at hl 0 rfl) ?_
      refine lv_aload_n hx hb d_Mod_detectorOf_7 rfl (lv_at hl 2 rfl) ?_
      refine va_get (D := (dC, dI)) (ci := 9) (v := .int (q_m_detectors x)) (C := R_Mod) (T := F_Mod) (N := 31) hx hb hbw in_Mod hown hK hP 0 rfl rfl 16 (by decide) (hbw _ w_725) (fun _ h9 => h9) rfl d_Mod_detectorOf_8 ?_
      refine lv_icmp_ge (tgt := 49) hx hb d_Mod_detectorOf_11 (by decide) (fun c_1 => ?_) (fun c_1 => ?_)
      · refine lv_iload_n hx hb d_Mod_detectorOf_49 rfl (lv_at hl 1 rfl) ?_
        exact W.toX (W.iret (v := fd) hx hb hr (fun t ht hW => ⟨by rw [show f_Mod_detectorOf x a1 a2 = fd from by rw [hq, if_pos c_1]], ht⟩) (fun q hq => by cases hq) d_Mod_detectorOf_50)
      · refine lv_aload_n hx hb d_Mod_detectorOf_14 rfl (lv_at hl 2 rfl) ?_
        refine va_get (D := (dC, dI)) (ci := 9) (v := .ref (ad 11)) (C := R_Mod) (T := F_Mod) (N := 31) hx hb hbw in_Mod hown hK hP 0 rfl rfl 17 (by decide) (hbw _ w_726) (fun _ h9 => h9) rfl d_Mod_detectorOf_15 ?_
        refine lv_iload hx hb d_Mod_detectorOf_18 (lv_at hl 0 rfl) ?_
        refine va_iald hx hb hK hP 11 0 rfl rfl (ix_ge hi c_1 hI.2.2.1.2) d_Mod_detectorOf_20 ?_
        refine lv_iload_n hx hb d_Mod_detectorOf_21 rfl (lv_at hl 3 rfl) ?_
        refine lv_icmp_ne (tgt := 41) hx hb d_Mod_detectorOf_22 (by decide) (fun c_2 => ?_) (fun c_2 => ?_)
        · refine lv_iload_n hx hb d_Mod_detectorOf_41 rfl (lv_at hl 1 rfl) ?_
          refine lv_istore_n (lv' := [(3, .int fd), (4, .int i), (0, .ref (ad 0)), (1, .int a1), (2, .int a2)]) hx hb d_Mod_detectorOf_42 rfl hl (by decide) rfl (fun ls hl => ?_)
          refine lv_iinc (v := i + 1) (lv' := [(4, .int (i + 1)), (3, .int fd), (0, .ref (ad 0)), (1, .int a1), (2, .int a2)]) hx hb d_Mod_detectorOf_43 hl (k := 1) rfl rfl (by decide) rfl (fun ls hl => ?_)
          refine lv_goto (tgt := 5) hx hb d_Mod_detectorOf_46 (by decide) ?_
          exact ih fd (i + 1) ls (lp_inc hi c_1 hI.2.2.1.2 (by decide)) (by rw [hq, if_neg c_1, if_neg c_2]) (lv_sub hl [0, 1, 2, 3, 4] rfl)
        · refine lv_aload_n hx hb d_Mod_detectorOf_25 rfl (lv_at hl 2 rfl) ?_
          refine va_get (D := (dC, dI)) (ci := 9) (v := .ref (ad 12)) (C := R_Mod) (T := F_Mod) (N := 31) hx hb hbw in_Mod hown hK hP 0 rfl rfl 18 (by decide) (hbw _ w_727) (fun _ h9 => h9) rfl d_Mod_detectorOf_26 ?_
          refine lv_iload hx hb d_Mod_detectorOf_29 (lv_at hl 0 rfl) ?_
          refine va_iald hx hb hK hP 12 0 rfl rfl (ix_ge hi c_1 hI.2.2.1.2) d_Mod_detectorOf_31 ?_
          refine lv_iload_n hx hb d_Mod_detectorOf_32 rfl (lv_at hl 4 rfl) ?_
          refine lv_icmp_ne (tgt := 41) hx hb d_Mod_detectorOf_33 (by decide) (fun c_3 => ?_) (fun c_3 => ?_)
          · refine lv_iload_n hx hb d_Mod_detectorOf_41 rfl (lv_at hl 1 rfl) ?_
            refine lv_istore_n (lv' := [(3, .int fd), (4, .int i), (0, .ref (ad 0)), (1, .int a1), (2, .int a2)]) hx hb d_Mod_detectorOf_42 rfl hl (by decide) rfl (fun ls hl => ?_)
            refine lv_iinc (v := i + 1) (lv' := [(4, .int (i + 1)), (3, .int fd), (0, .ref (ad 0)), (1, .int a1), (2, .int a2)]) hx hb d_Mod_detectorOf_43 hl (k := 1) rfl rfl (by decide) rfl (fun ls hl => ?_)
            refine lv_goto (tgt := 5) hx hb d_Mod_detectorOf_46 (by decide) ?_
            exact ih fd (i + 1) ls (lp_inc hi c_1 hI.2.2.1.2 (by decide)) (by rw [hq, if_neg c_1, if_pos c_2, if_neg c_3]) (lv_sub hl [0, 1, 2, 3, 4] rfl)
          · refine lv_iload hx hb d_Mod_detectorOf_36 (lv_at hl 0 rfl) ?_
            refine lv_goto (tgt := 42) hx hb d_Mod_detectorOf_38 (by decide) ?_
            refine lv_istore_n (lv' := [(3, .int i), (4, .int i), (0, .ref (ad 0)), (1, .int a1), (2, .int a2)]) hx hb d_Mod_detectorOf_42 rfl hl (by decide) rfl (fun ls hl => ?_)
            refine lv_iinc (v := i + 1) (lv' := [(4, .int (i + 1)), (3, .int i), (0, .ref (ad 0)), (1, .int a1), (2, .int a2)]) hx hb d_Mod_detectorOf_43 hl (k := 1) rfl rfl (by decide) rfl (fun ls hl => ?_)
            refine lv_goto (tgt := 5) hx hb d_Mod_detectorOf_46 (by decide) ?_
            exact ih i (i + 1) ls (lp_inc hi c_1 hI.2.2.1.2 (by decide)) (by rw [hq, if_neg c_1, if_pos c_2, if_pos c_3]) (lv_sub hl [0, 1, 2, 3, 4] rfl)
  exact loop 101 (-1) 0 ls (lp_0 (N := 100) hI.2.2.1 (by decide)) (rfl) (lv_sub hl [0, 1, 2, 3, 4] rfl)
def L_Mod_nearest (x : RT) (a1 : Int32) : Nat → Int32 → Int32 → Int32
  | 0, _, _ => 0
  | k + 1, bst, i => if (q_m_rooms x) ≤ i then bst else (if ((q_m_kind x) i.toNatClampNeg) = a1 then (if 100000000 ≤ ((q_m_least x) i.toNatClampNeg) then L_Mod_nearest x a1 k bst (i + 1) else (if bst < 0 then L_Mod_nearest x a1 k i (i + 1) else (if ((q_m_least x) bst.toNatClampNeg) ≤ ((q_m_least x) i.toNatClampNeg) then L_Mod_nearest x a1 k bst (i + 1) else L_Mod_nearest x a1 k i (i + 1)))) else L_Mod_nearest x a1 k bst (i + 1))
theorem L_Mod_nearest_s (x : RT) (a1 : Int32) (k : Nat) (bst i : Int32) : L_Mod_nearest x a1 (k + 1) bst i = if (q_m_rooms x) ≤ i then bst else (if ((q_m_kind x) i.toNatClampNeg) = a1 then (if 100000000 ≤ ((q_m_least x) i.toNatClampNeg) then L_Mod_nearest x a1 k bst (i + 1) else (if bst < 0 then L_Mod_nearest x a1 k i (i + 1) else (if ((q_m_least x) bst.toNatClampNeg) ≤ ((q_m_least x) i.toNatClampNeg) then L_Mod_nearest x a1 k bst (i + 1) else L_Mod_nearest x a1 k i (i + 1)))) else L_Mod_nearest x a1 k bst (i + 1)) := rfl
def f_Mod_nearest (x : RT) (a1 : Int32) : Int32 := L_Mod_nearest x a1 41 (-1) 0
set_option maxHeartbeats 400000 in
set_option maxRecDepth 100000 in
theorem c_Mod_nearest (l : Launch) (dC : Nat → ClassId) (dI : Nat → Nat → Nat) (cI cZ : ClassId) (ad : Nat → Nat) (x : RT) (hI : RIn x) (a1 : Int32) : MX l y_Mod_nearest (Cond.code y_Mod_nearest b_Mod_nearest 4 (some .int) :: BW) { frames := 0, cells := 0, slots := 0, locals := 0 } (PC (dC, dI) [(cI, .int), (cZ, .boolean)] (wR cI cZ ad x) [.ref (ad 0), .int a1]) (PQ (some (.int (f_Mod_nearest x a1)))) 0 0 (fun _ => False) := by
  refine MX.ofW (cc := b_Mod_nearest) (maxL := 4) (ret := (some .int)) (by decide) rfl ?_
  intro p e s m args below meth c s₁ B hml hex hv
  obtain ⟨rfl, hP, hK, hN⟩ := hv
  have hx := B.exec
  have hb := B.bytes
  have hr := B.returns
  have hts := atoms_spec (ws := Cond.code y_Mod_nearest b_Mod_nearest 4 (some .int) :: BW) B.pre
  have hbw : ∀ w ∈ BW, w.before ([.ref (ad 0), .int a1]).toArray s = true := fun w h => hts w (List.mem_cons_of_mem _ h)
  have hown : s.vm.findClass "PlanRowsModel" = some m.cls := findClass_of_methodNamed B.named
  have hlocks := B.notSynchronized
  have hl := lv_entry ([.ref (ad 0), .int a1]) (n := 4) (Nat.le_of_ble_eq_true rfl)
  rw [lg_entry_eq]
  generalize (lg_sl ([.ref (ad 0), .int a1]) ++ List.replicate (4 - (lg_sl ([.ref (ad 0), .int a1])).length) Slot.unset).toArray = ls at hl ⊢
  have hl : lv_has ls 4 [(0, .ref (ad 0)), (1, .int a1)] := hl
  refine lv_iconst (v := (-1)) hx hb d_Mod_nearest_0 (by decide) ?_
  refine lv_istore_n (lv' := [(2, .int (-1)), (0, .ref (ad 0)), (1, .int a1)]) hx hb d_Mod_nearest_1 rfl hl (by decide) rfl (fun ls hl => ?_)
  refine lv_iconst (v := 0) hx hb d_Mod_nearest_2 (by decide) ?_
  refine lv_istore_n (lv' := [(3, .int 0), (2, .int (-1)), (0, .ref (ad 0)), (1, .int a1)]) hx hb d_Mod_nearest_3 rfl hl (by decide) rfl (fun ls hl => ?_)
  have loop : ∀ (k : Nat) (bst i : Int32) (ls : Array Slot), (-1 ≤ bst.toInt ∧ bst.toInt < 40) ∧ 0 ≤ i.toInt ∧ i.toInt ≤ (q_m_rooms x).toInt ∧ (q_m_rooms x).toInt - i.toInt < ((k : Nat) : Int) → f_Mod_nearest x a1 = L_Mod_nearest x a1 k bst i → lv_has ls 4 [(3, .int i), (2, .int bst), (0, .ref (ad 0)), (1, .int a1)] → W p l e { frames := 0, cells := 0, slots := 0, locals := 0 } s m ([.ref (ad 0), .int a1]).toArray below meth c s.heap [] 0 0 (MQX below (PQ (some (.int (f_Mod_nearest x a1)))) ([.ref (ad 0), .int a1]).toArray s 0 0 (fun _ => False)) (F0 m 4 ls []) := by
    intro k
    induction k with
    | zero =>
      intro bst i ls hi hq hl
      obtain ⟨-, h1, h2, h3⟩ := hi
      omega
    | succ k ih =>
      intro bst i ls hi hq hl
      have hq := hq.trans (L_Mod_nearest_s x a1 k bst i)
      refine lv_iload_n hx hb d_Mod_nearest_4 rfl (lv_at hl 0 rfl) ?_
      refine lv_aload_n hx hb d_Mod_nearest_5 rfl (lv_at hl 2 rfl) ?_
      refine va_get (D := (dC, dI)) (ci := 9) (v := .int (q_m_rooms x)) (C := R_Mod) (T := F_Mod) (N := 31) hx hb hbw in_Mod hown hK hP 0 rfl rfl 1 (by decide) (hbw _ w_710) (fun _ h9 => h9) rfl d_Mod_nearest_6 ?_
      refine lv_icmp_ge (tgt := 60) hx hb d_Mod_nearest_9 (by decide) (fun c_1 => ?_) (fun c_1 => ?_)
      · refine lv_iload_n hx hb d_Mod_nearest_60 rfl (lv_at hl 1 rfl) ?_
        exact W.toX (W.iret (v := bst) hx hb hr (fun t ht hW => ⟨by rw [show f_Mod_nearest x a1 = bst from by rw [hq, if_pos c_1]], ht⟩) (fun q hq => by cases hq) d_Mod_nearest_61)
      · refine lv_aload_n hx hb d_Mod_nearest_12 rfl (lv_at hl 2 rfl) ?_
        refine va_get (D := (dC, dI)) (ci := 9) (v := .ref (ad 2)) (C := R_Mod) (T := F_Mod) (N := 31) hx hb hbw in_Mod hown hK hP 0 rfl rfl 3 (by decide) (hbw _ w_712) (fun _ h9 => h9) rfl d_Mod_nearest_13 ?_
        refine lv_iload_n hx hb d_Mod_nearest_16 rfl (lv_at hl 0 rfl) ?_
        refine va_iald hx hb hK hP 2 0 rfl rfl (ix_ge hi.2 c_1 hI.1.2) d_Mod_nearest_17 ?_
        refine lv_iload_n hx hb d_Mod_nearest_18 rfl (lv_at hl 3 rfl) ?_
        refine lv_icmp_ne (tgt := 54) hx hb d_Mod_nearest_19 (by decide) (fun c_2 => ?_) (fun c_2 => ?_)
        · refine lv_iinc (v := i + 1) (lv' := [(3, .int (i + 1)), (2, .int bst), (0, .ref (ad 0)), (1, .int a1)]) hx hb d_Mod_nearest_54 hl (k := 0) rfl rfl (by decide) rfl (fun ls hl => ?_)
          refine lv_goto (tgt := 4) hx hb d_Mod_nearest_57 (by decide) ?_
          exact ih bst (i + 1) ls ⟨hi.1, lp_inc hi.2 c_1 hI.1.2 (by decide)⟩ (by rw [hq, if_neg c_1, if_neg c_2]) (lv_sub hl [0, 1, 2, 3] rfl)
        · refine lv_aload_n hx hb d_Mod_nearest_22 rfl (lv_at hl 2 rfl) ?_
          refine va_get (D := (dC, dI)) (ci := 9) (v := .ref (ad 9)) (C := R_Mod) (T := F_Mod) (N := 31) hx hb hbw in_Mod hown hK hP 0 rfl rfl 11 (by decide) (hbw _ w_720) (fun _ h9 => h9) rfl d_Mod_nearest_23 ?_
          refine lv_iload_n hx hb d_Mod_nearest_26 rfl (lv_at hl 0 rfl) ?_
          refine va_iald hx hb hK hP 9 0 rfl rfl (ix_ge hi.2 c_1 hI.1.2) d_Mod_nearest_27 ?_
          refine lv_ldc (v := 100000000) hx hb hown (hbw _ w_842) d_Mod_nearest_28 ?_
          refine lv_icmp_ge (tgt := 54) hx hb d_Mod_nearest_30 (by decide) (fun c_3 => ?_) (fun c_3 => ?_)
          · refine lv_iinc (v := i + 1) (lv' := [(3, .int (i + 1)), (2, .int bst), (0, .ref (ad 0)), (1, .int a1)]) hx hb d_Mod_nearest_54 hl (k := 0) rfl rfl (by decide) rfl (fun ls hl => ?_)
            refine lv_goto (tgt := 4) hx hb d_Mod_nearest_57 (by decide) ?_
            exact ih bst (i + 1) ls ⟨hi.1, lp_inc hi.2 c_1 hI.1.2 (by decide)⟩ (by rw [hq, if_neg c_1, if_pos c_2, if_pos c_3]) (lv_sub hl [0, 1, 2, 3] rfl)
          · refine lv_iload_n hx hb d_Mod_nearest_33 rfl (lv_at hl 1 rfl) ?_
            refine lv_if_lt (tgt := 52) hx hb d_Mod_nearest_34 (by decide) (fun c_4 => ?_) (fun c_4 => ?_)
            · refine lv_iload_n hx hb d_Mod_nearest_52 rfl (lv_at hl 0 rfl) ?_
              refine lv_istore_n (lv' := [(2, .int i), (3, .int i), (0, .ref (ad 0)), (1, .int a1)]) hx hb d_Mod_nearest_53 rfl hl (by decide) rfl (fun ls hl => ?_)
              refine lv_iinc (v := i + 1) (lv' := [(3, .int (i + 1)), (2, .int i), (0, .ref (ad 0)), (1, .int a1)]) hx hb d_Mod_nearest_54 hl (k := 1) rfl rfl (by decide) rfl (fun ls hl => ?_)
              refine lv_goto (tgt := 4) hx hb d_Mod_nearest_57 (by decide) ?_
              exact ih i (i + 1) ls ⟨(by have h7 : vp_in i 40 := ix_ge hi.2 c_1 hI.1.2; have h8 := vp_in_iff.mp h7; omega), lp_inc hi.2 c_1 hI.1.2 (by decide)⟩ (by rw [hq, if_neg c_1, if_pos c_2, if_neg c_3, if_pos c_4]) (lv_sub hl [0, 1, 2, 3] rfl)
            · refine lv_aload_n hx hb d_Mod_nearest_37 rfl (lv_at hl 2 rfl) ?_
              refine va_get (D := (dC, dI)) (ci := 9) (v := .ref (ad 9)) (C := R_Mod) (T := F_Mod) (N := 31) hx hb hbw in_Mod hown hK hP 0 rfl rfl 11 (by decide) (hbw _ w_720) (fun _ h9 => h9) rfl d_Mod_nearest_38 ?_
              refine lv_iload_n hx hb d_Mod_nearest_41 rfl (lv_at hl 0 rfl) ?_
              refine va_iald hx hb hK hP 9 0 rfl rfl (ix_ge hi.2 c_1 hI.1.2) d_Mod_nearest_42 ?_
              refine lv_aload_n hx hb d_Mod_nearest_43 rfl (lv_at hl 2 rfl) ?_
              refine va_get (D := (dC, dI)) (ci := 9) (v := .ref (ad 9)) (C := R_Mod) (T := F_Mod) (N := 31) hx hb hbw in_Mod hown hK hP 0 rfl rfl 11 (by decide) (hbw _ w_720) (fun _ h9 => h9) rfl d_Mod_nearest_44 ?_
              refine lv_iload_n hx hb d_Mod_nearest_47 rfl (lv_at hl 1 rfl) ?_
              refine va_iald hx hb hK hP 9 0 rfl rfl (ix_nn c_4 (by have := hi.1; omega)) d_Mod_nearest_48 ?_
              refine lv_icmp_ge (tgt := 54) hx hb d_Mod_nearest_49 (by decide) (fun c_5 => ?_) (fun c_5 => ?_)
              · refine lv_iinc (v := i + 1) (lv' := [(3, .int (i + 1)), (2, .int bst), (0, .ref (ad 0)), (1, .int a1)]) hx hb d_Mod_nearest_54 hl (k := 0) rfl rfl (by decide) rfl (fun ls hl => ?_)
                refine lv_goto (tgt := 4) hx hb d_Mod_nearest_57 (by decide) ?_
                exact ih bst (i + 1) ls ⟨hi.1, lp_inc hi.2 c_1 hI.1.2 (by decide)⟩ (by rw [hq, if_neg c_1, if_pos c_2, if_neg c_3, if_neg c_4, if_pos c_5]) (lv_sub hl [0, 1, 2, 3] rfl)
              · refine lv_iload_n hx hb d_Mod_nearest_52 rfl (lv_at hl 0 rfl) ?_
                refine lv_istore_n (lv' := [(2, .int i), (3, .int i), (0, .ref (ad 0)), (1, .int a1)]) hx hb d_Mod_nearest_53 rfl hl (by decide) rfl (fun ls hl => ?_)
                refine lv_iinc (v := i + 1) (lv' := [(3, .int (i + 1)), (2, .int i), (0, .ref (ad 0)), (1, .int a1)]) hx hb d_Mod_nearest_54 hl (k := 1) rfl rfl (by decide) rfl (fun ls hl => ?_)
                refine lv_goto (tgt := 4) hx hb d_Mod_nearest_57 (by decide) ?_
                exact ih i (i + 1) ls ⟨(by have h7 : vp_in i 40 := ix_ge hi.2 c_1 hI.1.2; have h8 := vp_in_iff.mp h7; omega), lp_inc hi.2 c_1 hI.1.2 (by decide)⟩ (by rw [hq, if_neg c_1, if_pos c_2, if_neg c_3, if_neg c_4, if_neg c_5]) (lv_sub hl [0, 1, 2, 3] rfl)
  exact loop 41 (-1) 0 ls ⟨by decide, lp_0 (N := 40) hI.1 (by decide)⟩ (rfl) (lv_sub hl [0, 1, 2, 3] rfl)
def L_Mod_into (x : RT) (a1 : Int32) : Nat → Int32 → Int32
  | 0, _ => 0
  | k + 1, i => if (q_m_doors x) ≤ i then (-1) else (if ((q_m_from x) i.toNatClampNeg) = a1 then (if ((q_m_from x) i.toNatClampNeg) = a1 then (if (f_Mod_isPassed x i) = 0 then L_Mod_into x a1 k (i + 1) else (if (((q_m_least x) ((q_m_to x) i.toNatClampNeg).toNatClampNeg) + (f_Mod_costOf x i)) = ((q_m_least x) a1.toNatClampNeg) then i else L_Mod_into x a1 k (i + 1))) else (if ((q_m_to x) i.toNatClampNeg) = a1 then (if (f_Mod_isPassed x i) = 0 then L_Mod_into x a1 k (i + 1) else (if (((q_m_least x) ((q_m_to x) i.toNatClampNeg).toNatClampNeg) + (f_Mod_costOf x i)) = ((q_m_least x) a1.toNatClampNeg) then i else L_Mod_into x a1 k (i + 1))) else L_Mod_into x a1 k (i + 1))) else (if ((q_m_from x) i.toNatClampNeg) = a1 then (if (f_Mod_isPassed x i) = 0 then L_Mod_into x a1 k (i + 1) else (if (((q_m_least x) ((q_m_from x) i.toNatClampNeg).toNatClampNeg) + (f_Mod_costOf x i)) = ((q_m_least x) a1.toNatClampNeg) then i else L_Mod_into x a1 k (i + 1))) else (if ((q_m_to x) i.toNatClampNeg) = a1 then (if (f_Mod_isPassed x i) = 0 then L_Mod_into x a1 k (i + 1) else (if (((q_m_least x) ((q_m_from x) i.toNatClampNeg).toNatClampNeg) + (f_Mod_costOf x i)) = ((q_m_least x) a1.toNatClampNeg) then i else L_Mod_into x a1 k (i + 1))) else L_Mod_into x a1 k (i + 1))))
theorem L_Mod_into_s (x : RT) (a1 : Int32) (k : Nat) (i : Int32) : L_Mod_into x a1 (k + 1) i = if (q_m_doors x) ≤ i then (-1) else (if ((q_m_from x) i.toNatClampNeg) = a1 then (if ((q_m_from x) i.toNatClampNeg) = a1 then (if (f_Mod_isPassed x i) = 0 then L_Mod_into x a1 k (i + 1) else (if (((q_m_least x) ((q_m_to x) i.toNatClampNeg).toNatClampNeg) + (f_Mod_costOf x i)) = ((q_m_least x) a1.toNatClampNeg) then i else L_Mod_into x a1 k (i + 1))) else (if ((q_m_to x) i.toNatClampNeg) = a1 then (if (f_Mod_isPassed x i) = 0 then L_Mod_into x a1 k (i + 1) else (if (((q_m_least x) ((q_m_to x) i.toNatClampNeg).toNatClampNeg) + (f_Mod_costOf x i)) = ((q_m_least x) a1.toNatClampNeg) then i else L_Mod_into x a1 k (i + 1))) else L_Mod_into x a1 k (i + 1))) else (if ((q_m_from x) i.toNatClampNeg) = a1 then (if (f_Mod_isPassed x i) = 0 then L_Mod_into x a1 k (i + 1) else (if (((q_m_least x) ((q_m_from x) i.toNatClampNeg).toNatClampNeg) + (f_Mod_costOf x i)) = ((q_m_least x) a1.toNatClampNeg) then i else L_Mod_into x a1 k (i + 1))) else (if ((q_m_to x) i.toNatClampNeg) = a1 then (if (f_Mod_isPassed x i) = 0 then L_Mod_into x a1 k (i + 1) else (if (((q_m_least x) ((q_m_from x) i.toNatClampNeg).toNatClampNeg) + (f_Mod_costOf x i)) = ((q_m_least x) a1.toNatClampNeg) then i else L_Mod_into x a1 k (i + 1))) else L_Mod_into x a1 k (i + 1)))) := rfl
def f_Mod_into (x : RT) (a1 : Int32) : Int32 := L_Mod_into x a1 81 0
set_option maxHeartbeats 400000 in
set_option maxRecDepth 100000 in
theorem c_Mod_into (l : Launch) (dC : Nat → ClassId) (dI : Nat → Nat → Nat) (cI cZ : ClassId) (ad : Nat → Nat) (x : RT) (hI : RIn x) (a1 : Int32) (hr1 : vp_in a1 40) : MX l y_Mod_into (Cond.code y_Mod_into b_Mod_into 4 (some .int) :: BW) { frames := 1, cells := 0, slots := 0, locals := 21 } (PC (dC, dI) [(cI, .int), (cZ, .boolean)] (wR cI cZ ad x) [.ref (ad 0), .int a1]) (PQ (some (.int (f_Mod_into x a1)))) 0 0 (fun _ => False) := by
  refine MX.ofW (cc := b_Mod_into) (maxL := 4) (ret := (some .int)) (by decide) rfl ?_
  intro p e s m args below meth c s₁ B hml hex hv
  obtain ⟨rfl, hP, hK, hN⟩ := hv
  have hx := B.exec
  have hb := B.bytes
  have hr := B.returns
  have hts := atoms_spec (ws := Cond.code y_Mod_into b_Mod_into 4 (some .int) :: BW) B.pre
  have hbw : ∀ w ∈ BW, w.before ([.ref (ad 0), .int a1]).toArray s = true := fun w h => hts w (List.mem_cons_of_mem _ h)
  have hown : s.vm.findClass "PlanRowsModel" = some m.cls := findClass_of_methodNamed B.named
  have hlocks := B.notSynchronized
  have hl := lv_entry ([.ref (ad 0), .int a1]) (n := 4) (Nat.le_of_ble_eq_true rfl)
  rw [lg_entry_eq]
  generalize (lg_sl ([.ref (ad 0), .int a1]) ++ List.replicate (4 - (lg_sl ([.ref (ad 0), .int a1])).length) Slot.unset).toArray = ls at hl ⊢
  have hl : lv_has ls 4 [(0, .ref (ad 0)), (1, .int a1)] := hl
  refine lv_iconst (v := 0) hx hb d_Mod_into_0 (by decide) ?_
  refine lv_istore_n (lv' := [(2, .int 0), (0, .ref (ad 0)), (1, .int a1)]) hx hb d_Mod_into_1 rfl hl (by decide) rfl (fun ls hl => ?_)
  have loop : ∀ (k : Nat) (i : Int32) (ls : Array Slot), 0 ≤ i.toInt ∧ i.toInt ≤ (q_m_doors x).toInt ∧ (q_m_doors x).toInt - i.toInt < ((k : Nat) : Int) → f_Mod_into x a1 = L_Mod_into x a1 k i → lv_has ls 4 [(2, .int i), (0, .ref (ad 0)), (1, .int a1)] → W p l e { frames := 1, cells := 0, slots := 0, locals := 21 } s m ([.ref (ad 0), .int a1]).toArray below meth c s.heap [] 0 0 (MQX below (PQ (some (.int (f_Mod_into x a1)))) ([.ref (ad 0), .int a1]).toArray s 0 0 (fun _ => False)) (F0 m 2 ls []) := by
    intro k
    induction k with
    | zero =>
      intro i ls hi hq hl
      obtain ⟨h1, h2, h3⟩ := hi
      omega
    | succ k ih =>
      intro i ls hi hq hl
      have hq := hq.trans (L_Mod_into_s x a1 k i)
      refine lv_iload_n hx hb d_Mod_into_2 rfl (lv_at hl 0 rfl) ?_
      refine lv_aload_n hx hb d_Mod_into_3 rfl (lv_at hl 1 rfl) ?_
      refine va_get (D := (dC, dI)) (ci := 9) (v := .int (q_m_doors x)) (C := R_Mod) (T := F_Mod) (N := 31) hx hb hbw in_Mod hown hK hP 0 rfl rfl 5 (by decide) (hbw _ w_714) (fun _ h9 => h9) rfl d_Mod_into_4 ?_
      refine lv_icmp_ge (tgt := 93) hx hb d_Mod_into_7 (by decide) (fun c_1 => ?_) (fun c_1 => ?_)
      · refine lv_iconst (v := (-1)) hx hb d_Mod_into_93 (by decide) ?_
        exact W.toX (W.iret (v := (-1)) hx hb hr (fun t ht hW => ⟨by rw [show f_Mod_into x a1 = (-1) from by rw [hq, if_pos c_1]], ht⟩) (fun q hq => by cases hq) d_Mod_into_94)
      · refine lv_aload_n hx hb d_Mod_into_10 rfl (lv_at hl 1 rfl) ?_
        refine va_get (D := (dC, dI)) (ci := 9) (v := .ref (ad 4)) (C := R_Mod) (T := F_Mod) (N := 31) hx hb hbw in_Mod hown hK hP 0 rfl rfl 6 (by decide) (hbw _ w_715) (fun _ h9 => h9) rfl d_Mod_into_11 ?_
        refine lv_iload_n hx hb d_Mod_into_14 rfl (lv_at hl 0 rfl) ?_
        refine va_iald hx hb hK hP 4 0 rfl rfl (dv_in hI (dv_ge hi c_1)) d_Mod_into_15 ?_
        refine lv_iload_n hx hb d_Mod_into_16 rfl (lv_at hl 2 rfl) ?_
        refine lv_icmp_ne (tgt := 29) hx hb d_Mod_into_17 (by decide) (fun c_2 => ?_) (fun c_2 => ?_)
        · refine lv_aload_n hx hb d_Mod_into_29 rfl (lv_at hl 1 rfl) ?_
          refine va_get (D := (dC, dI)) (ci := 9) (v := .ref (ad 4)) (C := R_Mod) (T := F_Mod) (N := 31) hx hb hbw in_Mod hown hK hP 0 rfl rfl 6 (by decide) (hbw _ w_715) (fun _ h9 => h9) rfl d_Mod_into_30 ?_
          refine lv_iload_n hx hb d_Mod_into_33 rfl (lv_at hl 0 rfl) ?_
          refine va_iald hx hb hK hP 4 0 rfl rfl (dv_in hI (dv_ge hi c_1)) d_Mod_into_34 ?_
          refine lv_istore_n (lv' := [(3, .int ((q_m_from x) i.toNatClampNeg)), (2, .int i), (0, .ref (ad 0)), (1, .int a1)]) hx hb d_Mod_into_35 rfl hl (by decide) rfl (fun ls hl => ?_)
          refine lv_aload_n hx hb d_Mod_into_36 rfl (lv_at hl 2 rfl) ?_
          refine va_get (D := (dC, dI)) (ci := 9) (v := .ref (ad 4)) (C := R_Mod) (T := F_Mod) (N := 31) hx hb hbw in_Mod hown hK hP 0 rfl rfl 6 (by decide) (hbw _ w_715) (fun _ h9 => h9) rfl d_Mod_into_37 ?_
          refine lv_iload_n hx hb d_Mod_into_40 rfl (lv_at hl 1 rfl) ?_
          refine va_iald hx hb hK hP 4 0 rfl rfl (dv_in hI (dv_ge hi c_1)) d_Mod_into_41 ?_
          refine lv_iload_n hx hb d_Mod_into_42 rfl (lv_at hl 3 rfl) ?_
          refine lv_icmp_eq (tgt := 56) hx hb d_Mod_into_43 (by decide) (fun c_3 => ?_) (fun c_3 => ?_)
          · refine lv_aload_n hx hb d_Mod_into_56 rfl (lv_at hl 2 rfl) ?_
            refine lv_iload_n hx hb d_Mod_into_57 rfl (lv_at hl 1 rfl) ?_
            refine xv (As := [.int i]) (rest := []) (C := "PlanRowsModel") ⟨hx, hb, hml, hown, hts⟩ (c_Mod_isPassed l dC dI cI cZ ad x hI i (dv_ge hi c_1)) (cw_Mod_100 hts rfl rfl ⟨Nat.le_of_ble_eq_true rfl, Nat.le_of_ble_eq_true rfl⟩) hK hN hP 0 rfl rfl rfl rfl hl.1 rfl (Nat.le_of_ble_eq_true rfl) d_Mod_into_58 ⟨Nat.zero_le _, Nat.zero_le _⟩ ?_
            refine lv_if_eq (tgt := 87) hx hb d_Mod_into_61 (by decide) (fun c_4 => ?_) (fun c_4 => ?_)
            · refine lv_iinc (v := i + 1) (lv' := [(2, .int (i + 1)), (3, .int ((q_m_from x) i.toNatClampNeg)), (0, .ref (ad 0)), (1, .int a1)]) hx hb d_Mod_into_87 hl (k := 1) rfl rfl (by decide) rfl (fun ls hl => ?_)
              refine lv_goto (tgt := 2) hx hb d_Mod_into_90 (by decide) ?_
              exact ih (i + 1) ls (lp_inc hi c_1 hI.2.1.2 (by decide)) (by rw [hq, if_neg c_1, if_neg c_2, if_pos c_3, if_pos c_4]) (lv_sub hl [0, 2, 3] rfl)
            · refine lv_aload_n hx hb d_Mod_into_64 rfl (lv_at hl 2 rfl) ?_
              refine va_get (D := (dC, dI)) (ci := 9) (v := .ref (ad 9)) (C := R_Mod) (T := F_Mod) (N := 31) hx hb hbw in_Mod hown hK hP 0 rfl rfl 11 (by decide) (hbw _ w_720) (fun _ h9 => h9) rfl d_Mod_into_65 ?_
              refine lv_iload_n hx hb d_Mod_into_68 rfl (lv_at hl 0 rfl) ?_
              refine va_iald hx hb hK hP 9 0 rfl rfl (dv_from hI (dv_ge hi c_1)) d_Mod_into_69 ?_
              refine lv_aload_n hx hb d_Mod_into_70 rfl (lv_at hl 2 rfl) ?_
              refine lv_iload_n hx hb d_Mod_into_71 rfl (lv_at hl 1 rfl) ?_
              refine xv (As := [.int i]) (rest := [.int ((q_m_least x) ((q_m_from x) i.toNatClampNeg).toNatClampNeg)]) (C := "PlanRowsModel") ⟨hx, hb, hml, hown, hts⟩ (c_Mod_costOf l dC dI cI cZ ad x hI i (dv_ge hi c_1)) (cw_Mod_103 hts rfl rfl ⟨Nat.le_of_ble_eq_true rfl, Nat.le_of_ble_eq_true rfl⟩) hK hN hP 0 rfl rfl rfl rfl hl.1 rfl (Nat.le_of_ble_eq_true rfl) d_Mod_into_72 ⟨Nat.zero_le _, Nat.zero_le _⟩ ?_
              refine lv_iadd hx hb d_Mod_into_75 ?_
              refine lv_aload_n hx hb d_Mod_into_76 rfl (lv_at hl 2 rfl) ?_
              refine va_get (D := (dC, dI)) (ci := 9) (v := .ref (ad 9)) (C := R_Mod) (T := F_Mod) (N := 31) hx hb hbw in_Mod hown hK hP 0 rfl rfl 11 (by decide) (hbw _ w_720) (fun _ h9 => h9) rfl d_Mod_into_77 ?_
              refine lv_iload_n hx hb d_Mod_into_80 rfl (lv_at hl 3 rfl) ?_
              refine va_iald hx hb hK hP 9 0 rfl rfl hr1 d_Mod_into_81 ?_
              refine lv_icmp_ne (tgt := 87) hx hb d_Mod_into_82 (by decide) (fun c_5 => ?_) (fun c_5 => ?_)
              · refine lv_iinc (v := i + 1) (lv' := [(2, .int (i + 1)), (3, .int ((q_m_from x) i.toNatClampNeg)), (0, .ref (ad 0)), (1, .int a1)]) hx hb d_Mod_into_87 hl (k := 1) rfl rfl (by decide) rfl (fun ls hl => ?_)
                refine lv_goto (tgt := 2) hx hb d_Mod_into_90 (by decide) ?_
                exact ih (i + 1) ls (lp_inc hi c_1 hI.2.1.2 (by decide)) (by rw [hq, if_neg c_1, if_neg c_2, if_pos c_3, if_neg c_4, if_neg c_5]) (lv_sub hl [0, 2, 3] rfl)
              · refine lv_iload_n hx hb d_Mod_into_85 rfl (lv_at hl 1 rfl) ?_
                exact W.toX (W.iret (v := i) hx hb hr (fun t ht hW => ⟨by rw [show f_Mod_into x a1 = i from by rw [hq, if_neg c_1, if_neg c_2, if_pos c_3, if_neg c_4, if_pos c_5]], ht⟩) (fun q hq => by cases hq) d_Mod_into_86)
          · refine lv_aload_n hx hb d_Mod_into_46 rfl (lv_at hl 2 rfl) ?_
            refine va_get (D := (dC, dI)) (ci := 9) (v := .ref (ad 5)) (C := R_Mod) (T := F_Mod) (N := 31) hx hb hbw in_Mod hown hK hP 0 rfl rfl 7 (by decide) (hbw _ w_716) (fun _ h9 => h9) rfl d_Mod_into_47 ?_
            refine lv_iload_n hx hb d_Mod_into_50 rfl (lv_at hl 1 rfl) ?_
            refine va_iald hx hb hK hP 5 0 rfl rfl (dv_in hI (dv_ge hi c_1)) d_Mod_into_51 ?_
            refine lv_iload_n hx hb d_Mod_into_52 rfl (lv_at hl 3 rfl) ?_
            refine lv_icmp_ne (tgt := 87) hx hb d_Mod_into_53 (by decide) (fun c_6 => ?_) (fun c_6 => ?_)
            · refine lv_iinc (v := i + 1) (lv' := [(2, .int (i + 1)), (3, .int ((q_m_from x) i.toNatClampNeg)), (0, .ref (ad 0)), (1, .int a1)]) hx hb d_Mod_into_87 hl (k := 1) rfl rfl (by decide) rfl (fun ls hl => ?_)
              refine lv_goto (tgt := 2) hx hb d_Mod_into_90 (by decide) ?_
              exact ih (i + 1) ls (lp_inc hi c_1 hI.2.1.2 (by decide)) (by rw [hq, if_neg c_1, if_neg c_2, if_neg c_3, if_neg c_6]) (lv_sub hl [0, 2, 3] rfl)
            · refine lv_aload_n hx hb d_Mod_into_56 rfl (lv_at hl 2 rfl) ?_
              refine lv_iload_n hx hb d_Mod_into_57 rfl (lv_at hl 1 rfl) ?_
              refine xv (As := [.int i]) (rest := []) (C := "PlanRowsModel") ⟨hx, hb, hml, hown, hts⟩ (c_Mod_isPassed l dC dI cI cZ ad x hI i (dv_ge hi c_1)) (cw_Mod_100 hts rfl rfl ⟨Nat.le_of_ble_eq_true rfl, Nat.le_of_ble_eq_true rfl⟩) hK hN hP 0 rfl rfl rfl rfl hl.1 rfl (Nat.le_of_ble_eq_true rfl) d_Mod_into_58 ⟨Nat.zero_le _, Nat.zero_le _⟩ ?_
              refine lv_if_eq (tgt := 87) hx hb d_Mod_into_61 (by decide) (fun c_7 => ?_) (fun c_7 => ?_)
              · refine lv_iinc (v := i + 1) (lv' := [(2, .int (i + 1)), (3, .int ((q_m_from x) i.toNatClampNeg)), (0, .ref (ad 0)), (1, .int a1)]) hx hb d_Mod_into_87 hl (k := 1) rfl rfl (by decide) rfl (fun ls hl => ?_)
                refine lv_goto (tgt := 2) hx hb d_Mod_into_90 (by decide) ?_
                exact ih (i + 1) ls (lp_inc hi c_1 hI.2.1.2 (by decide)) (by rw [hq, if_neg c_1, if_neg c_2, if_neg c_3, if_pos c_6, if_pos c_7]) (lv_sub hl [0, 2, 3] rfl)
              · refine lv_aload_n hx hb d_Mod_into_64 rfl (lv_at hl 2 rfl) ?_
                refine va_get (D := (dC, dI)) (ci := 9) (v := .ref (ad 9)) (C := R_Mod) (T := F_Mod) (N := 31) hx hb hbw in_Mod hown hK hP 0 rfl rfl 11 (by decide) (hbw _ w_720) (fun _ h9 => h9) rfl d_Mod_into_65 ?_
                refine lv_iload_n hx hb d_Mod_into_68 rfl (lv_at hl 0 rfl) ?_
                refine va_iald hx hb hK hP 9 0 rfl rfl (dv_from hI (dv_ge hi c_1)) d_Mod_into_69 ?_
                refine lv_aload_n hx hb d_Mod_into_70 rfl (lv_at hl 2 rfl) ?_
                refine lv_iload_n hx hb d_Mod_into_71 rfl (lv_at hl 1 rfl) ?_
                refine xv (As := [.int i]) (rest := [.int ((q_m_least x) ((q_m_from x) i.toNatClampNeg).toNatClampNeg)]) (C := "PlanRowsModel") ⟨hx, hb, hml, hown, hts⟩ (c_Mod_costOf l dC dI cI cZ ad x hI i (dv_ge hi c_1)) (cw_Mod_103 hts rfl rfl ⟨Nat.le_of_ble_eq_true rfl, Nat.le_of_ble_eq_true rfl⟩) hK hN hP 0 rfl rfl rfl rfl hl.1 rfl (Nat.le_of_ble_eq_true rfl) d_Mod_into_72 ⟨Nat.zero_le _, Nat.zero_le _⟩ ?_
                refine lv_iadd hx hb d_Mod_into_75 ?_
                refine lv_aload_n hx hb d_Mod_into_76 rfl (lv_at hl 2 rfl) ?_
                refine va_get (D := (dC, dI)) (ci := 9) (v := .ref (ad 9)) (C := R_Mod) (T := F_Mod) (N := 31) hx hb hbw in_Mod hown hK hP 0 rfl rfl 11 (by decide) (hbw _ w_720) (fun _ h9 => h9) rfl d_Mod_into_77 ?_
                refine lv_iload_n hx hb d_Mod_into_80 rfl (lv_at hl 3 rfl) ?_
                refine va_iald hx hb hK hP 9 0 rfl rfl hr1 d_Mod_into_81 ?_
                refine lv_icmp_ne (tgt := 87) hx hb d_Mod_into_82 (by decide) (fun c_8 => ?_) (fun c_8 => ?_)
                · refine lv_iinc (v := i + 1) (lv' := [(2, .int (i + 1)), (3, .int ((q_m_from x) i.toNatClampNeg)), (0, .ref (ad 0)), (1, .int a1)]) hx hb d_Mod_into_87 hl (k := 1) rfl rfl (by decide) rfl (fun ls hl => ?_)
                  refine lv_goto (tgt := 2) hx hb d_Mod_into_90 (by decide) ?_
                  exact ih (i + 1) ls (lp_inc hi c_1 hI.2.1.2 (by decide)) (by rw [hq, if_neg c_1, if_neg c_2, if_neg c_3, if_pos c_6, if_neg c_7, if_neg c_8]) (lv_sub hl [0, 2, 3] rfl)
                · refine lv_iload_n hx hb d_Mod_into_85 rfl (lv_at hl 1 rfl) ?_
                  exact W.toX (W.iret (v := i) hx hb hr (fun t ht hW => ⟨by rw [show f_Mod_into x a1 = i from by rw [hq, if_neg c_1, if_neg c_2, if_neg c_3, if_pos c_6, if_neg c_7, if_pos c_8]], ht⟩) (fun q hq => by cases hq) d_Mod_into_86)
        · refine lv_aload_n hx hb d_Mod_into_20 rfl (lv_at hl 1 rfl) ?_
          refine va_get (D := (dC, dI)) (ci := 9) (v := .ref (ad 5)) (C := R_Mod) (T := F_Mod) (N := 31) hx hb hbw in_Mod hown hK hP 0 rfl rfl 7 (by decide) (hbw _ w_716) (fun _ h9 => h9) rfl d_Mod_into_21 ?_
          refine lv_iload_n hx hb d_Mod_into_24 rfl (lv_at hl 0 rfl) ?_
          refine va_iald hx hb hK hP 5 0 rfl rfl (dv_in hI (dv_ge hi c_1)) d_Mod_into_25 ?_
          refine lv_goto (tgt := 35) hx hb d_Mod_into_26 (by decide) ?_
          refine lv_istore_n (lv' := [(3, .int ((q_m_to x) i.toNatClampNeg)), (2, .int i), (0, .ref (ad 0)), (1, .int a1)]) hx hb d_Mod_into_35 rfl hl (by decide) rfl (fun ls hl => ?_)
          refine lv_aload_n hx hb d_Mod_into_36 rfl (lv_at hl 2 rfl) ?_
          refine va_get (D := (dC, dI)) (ci := 9) (v := .ref (ad 4)) (C := R_Mod) (T := F_Mod) (N := 31) hx hb hbw in_Mod hown hK hP 0 rfl rfl 6 (by decide) (hbw _ w_715) (fun _ h9 => h9) rfl d_Mod_into_37 ?_
          refine lv_iload_n hx hb d_Mod_into_40 rfl (lv_at hl 1 rfl) ?_
          refine va_iald hx hb hK hP 4 0 rfl rfl (dv_in hI (dv_ge hi c_1)) d_Mod_into_41 ?_
          refine lv_iload_n hx hb d_Mod_into_42 rfl (lv_at hl 3 rfl) ?_
          refine lv_icmp_eq (tgt := 56) hx hb d_Mod_into_43 (by decide) (fun c_9 => ?_) (fun c_9 => ?_)
          · refine lv_aload_n hx hb d_Mod_into_56 rfl (lv_at hl 2 rfl) ?_
            refine lv_iload_n hx hb d_Mod_into_57 rfl (lv_at hl 1 rfl) ?_
            refine xv (As := [.int i]) (rest := []) (C := "PlanRowsModel") ⟨hx, hb, hml, hown, hts⟩ (c_Mod_isPassed l dC dI cI cZ ad x hI i (dv_ge hi c_1)) (cw_Mod_100 hts rfl rfl ⟨Nat.le_of_ble_eq_true rfl, Nat.le_of_ble_eq_true rfl⟩) hK hN hP 0 rfl rfl rfl rfl hl.1 rfl (Nat.le_of_ble_eq_true rfl) d_Mod_into_58 ⟨Nat.zero_le _, Nat.zero_le _⟩ ?_
            refine lv_if_eq (tgt := 87) hx hb d_Mod_into_61 (by decide) (fun c_10 => ?_) (fun c_10 => ?_)
            · refine lv_iinc (v := i + 1) (lv' := [(2, .int (i + 1)), (3, .int ((q_m_to x) i.toNatClampNeg)), (0, .ref (ad 0)), (1, .int a1)]) hx hb d_Mod_into_87 hl (k := 1) rfl rfl (by decide) rfl (fun ls hl => ?_)
              refine lv_goto (tgt := 2) hx hb d_Mod_into_90 (by decide) ?_
              exact ih (i + 1) ls (lp_inc hi c_1 hI.2.1.2 (by decide)) (by rw [hq, if_neg c_1, if_pos c_2, if_pos c_9, if_pos c_10]) (lv_sub hl [0, 2, 3] rfl)
            · refine lv_aload_n hx hb d_Mod_into_64 rfl (lv_at hl 2 rfl) ?_
              refine va_get (D := (dC, dI)) (ci := 9) (v := .ref (ad 9)) (C := R_Mod) (T := F_Mod) (N := 31) hx hb hbw in_Mod hown hK hP 0 rfl rfl 11 (by decide) (hbw _ w_720) (fun _ h9 => h9) rfl d_Mod_into_65 ?_
              refine lv_iload_n hx hb d_Mod_into_68 rfl (lv_at hl 0 rfl) ?_
              refine va_iald hx hb hK hP 9 0 rfl rfl (dv_to hI (dv_ge hi c_1)) d_Mod_into_69 ?_
              refine lv_aload_n hx hb d_Mod_into_70 rfl (lv_at hl 2 rfl) ?_
              refine lv_iload_n hx hb d_Mod_into_71 rfl (lv_at hl 1 rfl) ?_
              refine xv (As := [.int i]) (rest := [.int ((q_m_least x) ((q_m_to x) i.toNatClampNeg).toNatClampNeg)]) (C := "PlanRowsModel") ⟨hx, hb, hml, hown, hts⟩ (c_Mod_costOf l dC dI cI cZ ad x hI i (dv_ge hi c_1)) (cw_Mod_103 hts rfl rfl ⟨Nat.le_of_ble_eq_true rfl, Nat.le_of_ble_eq_true rfl⟩) hK hN hP 0 rfl rfl rfl rfl hl.1 rfl (Nat.le_of_ble_eq_true rfl) d_Mod_into_72 ⟨Nat.zero_le _, Nat.zero_le _⟩ ?_
              refine lv_iadd hx hb d_Mod_into_75 ?_
              refine lv_aload_n hx hb d_Mod_into_76 rfl (lv_at hl 2 rfl) ?_
              refine va_get (D := (dC, dI)) (ci := 9) (v := .ref (ad 9)) (C := R_Mod) (T := F_Mod) (N := 31) hx hb hbw in_Mod hown hK hP 0 rfl rfl 11 (by decide) (hbw _ w_720) (fun _ h9 => h9) rfl d_Mod_into_77 ?_
              refine lv_iload_n hx hb d_Mod_into_80 rfl (lv_at hl 3 rfl) ?_
              refine va_iald hx hb hK hP 9 0 rfl rfl hr1 d_Mod_into_81 ?_
              refine lv_icmp_ne (tgt := 87) hx hb d_Mod_into_82 (by decide) (fun c_11 => ?_) (fun c_11 => ?_)
              · refine lv_iinc (v := i + 1) (lv' := [(2, .int (i + 1)), (3, .int ((q_m_to x) i.toNatClampNeg)), (0, .ref (ad 0)), (1, .int a1)]) hx hb d_Mod_into_87 hl (k := 1) rfl rfl (by decide) rfl (fun ls hl => ?_)
                refine lv_goto (tgt := 2) hx hb d_Mod_into_90 (by decide) ?_
                exact ih (i + 1) ls (lp_inc hi c_1 hI.2.1.2 (by decide)) (by rw [hq, if_neg c_1, if_pos c_2, if_pos c_9, if_neg c_10, if_neg c_11]) (lv_sub hl [0, 2, 3] rfl)
              · refine lv_iload_n hx hb d_Mod_into_85 rfl (lv_at hl 1 rfl) ?_
                exact W.toX (W.iret (v := i) hx hb hr (fun t ht hW => ⟨by rw [show f_Mod_into x a1 = i from by rw [hq, if_neg c_1, if_pos c_2, if_pos c_9, if_neg c_10, if_pos c_11]], ht⟩) (fun q hq => by cases hq) d_Mod_into_86)
          · refine lv_aload_n hx hb d_Mod_into_46 rfl (lv_at hl 2 rfl) ?_
            refine va_get (D := (dC, dI)) (ci := 9) (v := .ref (ad 5)) (C := R_Mod) (T := F_Mod) (N := 31) hx hb hbw in_Mod hown hK hP 0 rfl rfl 7 (by decide) (hbw _ w_716) (fun _ h9 => h9) rfl d_Mod_into_47 ?_
            refine lv_iload_n hx hb d_Mod_into_50 rfl (lv_at hl 1 rfl) ?_
            refine va_iald hx hb hK hP 5 0 rfl rfl (dv_in hI (dv_ge hi c_1)) d_Mod_into_51 ?_
            refine lv_iload_n hx hb d_Mod_into_52 rfl (lv_at hl 3 rfl) ?_
            refine lv_icmp_ne (tgt := 87) hx hb d_Mod_into_53 (by decide) (fun c_12 => ?_) (fun c_12 => ?_)
            · refine lv_iinc (v := i + 1) (lv' := [(2, .int (i + 1)), (3, .int ((q_m_to x) i.toNatClampNeg)), (0, .ref (ad 0)), (1, .int a1)]) hx hb d_Mod_into_87 hl (k := 1) rfl rfl (by decide) rfl (fun ls hl => ?_)
              refine lv_goto (tgt := 2) hx hb d_Mod_into_90 (by decide) ?_
              exact ih (i + 1) ls (lp_inc hi c_1 hI.2.1.2 (by decide)) (by rw [hq, if_neg c_1, if_pos c_2, if_neg c_9, if_neg c_12]) (lv_sub hl [0, 2, 3] rfl)
            · refine lv_aload_n hx hb d_Mod_into_56 rfl (lv_at hl 2 rfl) ?_
              refine lv_iload_n hx hb d_Mod_into_57 rfl (lv_at hl 1 rfl) ?_
              refine xv (As := [.int i]) (rest := []) (C := "PlanRowsModel") ⟨hx, hb, hml, hown, hts⟩ (c_Mod_isPassed l dC dI cI cZ ad x hI i (dv_ge hi c_1)) (cw_Mod_100 hts rfl rfl ⟨Nat.le_of_ble_eq_true rfl, Nat.le_of_ble_eq_true rfl⟩) hK hN hP 0 rfl rfl rfl rfl hl.1 rfl (Nat.le_of_ble_eq_true rfl) d_Mod_into_58 ⟨Nat.zero_le _, Nat.zero_le _⟩ ?_
              refine lv_if_eq (tgt := 87) hx hb d_Mod_into_61 (by decide) (fun c_13 => ?_) (fun c_13 => ?_)
              · refine lv_iinc (v := i + 1) (lv' := [(2, .int (i + 1)), (3, .int ((q_m_to x) i.toNatClampNeg)), (0, .ref (ad 0)), (1, .int a1)]) hx hb d_Mod_into_87 hl (k := 1) rfl rfl (by decide) rfl (fun ls hl => ?_)
                refine lv_goto (tgt := 2) hx hb d_Mod_into_90 (by decide) ?_
                exact ih (i + 1) ls (lp_inc hi c_1 hI.2.1.2 (by decide)) (by rw [hq, if_neg c_1, if_pos c_2, if_neg c_9, if_pos c_12, if_pos c_13]) (lv_sub hl [0, 2, 3] rfl)
              · refine lv_aload_n hx hb d_Mod_into_64 rfl (lv_at hl 2 rfl) ?_
                refine va_get (D := (dC, dI)) (ci := 9) (v := .ref (ad 9)) (C := R_Mod) (T := F_Mod) (N := 31) hx hb hbw in_Mod hown hK hP 0 rfl rfl 11 (by decide) (hbw _ w_720) (fun _ h9 => h9) rfl d_Mod_into_65 ?_
                refine lv_iload_n hx hb d_Mod_into_68 rfl (lv_at hl 0 rfl) ?_
                refine va_iald hx hb hK hP 9 0 rfl rfl (dv_to hI (dv_ge hi c_1)) d_Mod_into_69 ?_
                refine lv_aload_n hx hb d_Mod_into_70 rfl (lv_at hl 2 rfl) ?_
                refine lv_iload_n hx hb d_Mod_into_71 rfl (lv_at hl 1 rfl) ?_
                refine xv (As := [.int i]) (rest := [.int ((q_m_least x) ((q_m_to x) i.toNatClampNeg).toNatClampNeg)]) (C := "PlanRowsModel") ⟨hx, hb, hml, hown, hts⟩ (c_Mod_costOf l dC dI cI cZ ad x hI i (dv_ge hi c_1)) (cw_Mod_103 hts rfl rfl ⟨Nat.le_of_ble_eq_true rfl, Nat.le_of_ble_eq_true rfl⟩) hK hN hP 0 rfl rfl rfl rfl hl.1 rfl (Nat.le_of_ble_eq_true rfl) d_Mod_into_72 ⟨Nat.zero_le _, Nat.zero_le _⟩ ?_
                refine lv_iadd hx hb d_Mod_into_75 ?_
                refine lv_aload_n hx hb d_Mod_into_76 rfl (lv_at hl 2 rfl) ?_
                refine va_get (D := (dC, dI)) (ci := 9) (v := .ref (ad 9)) (C := R_Mod) (T := F_Mod) (N := 31) hx hb hbw in_Mod hown hK hP 0 rfl rfl 11 (by decide) (hbw _ w_720) (fun _ h9 => h9) rfl d_Mod_into_77 ?_
                refine lv_iload_n hx hb d_Mod_into_80 rfl (lv_at hl 3 rfl) ?_
                refine va_iald hx hb hK hP 9 0 rfl rfl hr1 d_Mod_into_81 ?_
                refine lv_icmp_ne (tgt := 87) hx hb d_Mod_into_82 (by decide) (fun c_14 => ?_) (fun c_14 => ?_)
                · refine lv_iinc (v := i + 1) (lv' := [(2, .int (i + 1)), (3, .int ((q_m_to x) i.toNatClampNeg)), (0, .ref (ad 0)), (1, .int a1)]) hx hb d_Mod_into_87 hl (k := 1) rfl rfl (by decide) rfl (fun ls hl => ?_)
                  refine lv_goto (tgt := 2) hx hb d_Mod_into_90 (by decide) ?_
                  exact ih (i + 1) ls (lp_inc hi c_1 hI.2.1.2 (by decide)) (by rw [hq, if_neg c_1, if_pos c_2, if_neg c_9, if_pos c_12, if_neg c_13, if_neg c_14]) (lv_sub hl [0, 2, 3] rfl)
                · refine lv_iload_n hx hb d_Mod_into_85 rfl (lv_at hl 1 rfl) ?_
                  exact W.toX (W.iret (v := i) hx hb hr (fun t ht hW => ⟨by rw [show f_Mod_into x a1 = i from by rw [hq, if_neg c_1, if_pos c_2, if_neg c_9, if_pos c_12, if_neg c_13, if_pos c_14]], ht⟩) (fun q hq => by cases hq) d_Mod_into_86)
  exact loop 81 0 ls (lp_0 (N := 80) hI.2.1 (by decide)) (rfl) (lv_sub hl [0, 1, 2] rfl)
