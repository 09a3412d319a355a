theorem lp_inc {i n : Int32} {k : Nat} (hi : 0 ≤ i.toInt ∧ i.toInt ≤ n.toInt ∧ n.toInt - i.toInt < ((k + 1 : Nat) : Int)) (hc : ¬ n ≤ i) {N : Nat} (hn : n.toInt ≤ N) (hN : N < 100000) : 0 ≤ (i + 1).toInt ∧ (i + 1).toInt ≤ n.toInt ∧ n.toInt - (i + 1).toInt < (k : Int) := by
  rw [Int32.le_iff_toInt_le] at hc
  have h3 : (1 : Int32).toInt = 1 := rfl
  have e1 : (i + 1).toInt = i.toInt + 1 := by
    rw [Int32.toInt_add, h3]
    exact Int.bmod_eq_of_le (by omega) (by omega)
  omega
theorem ix_ge {a n : Int32} {N k : Nat} (hi : 0 ≤ a.toInt ∧ a.toInt ≤ n.toInt ∧ n.toInt - a.toInt < ((k + 1 : Nat) : Int)) (h1 : ¬ n ≤ a) (hn : n.toInt ≤ N) : vp_in a N := vp_in_iff.mpr (by
  rw [Int32.le_iff_toInt_le] at h1
  omega)
theorem lp_0 {n : Int32} {N : Nat} (h : 0 ≤ n.toInt ∧ n.toInt ≤ N) {K : Nat} (hK : N < K) : 0 ≤ (0 : Int32).toInt ∧ (0 : Int32).toInt ≤ n.toInt ∧ n.toInt - (0 : Int32).toInt < (K : Int) := by
  have h3 : (0 : Int32).toInt = 0 := rfl
  omega
def L_Doors_anyHasKey (x : ST) (a1 : Int32) : Nat → Int32 → Int32
  | 0, _ => 0
  | k + 1, i => if (q_dn x) ≤ i then 0 else (if ((q_dk x) i.toNatClampNeg) = a1 then 1 else L_Doors_anyHasKey x a1 k (i + 1))
theorem L_Doors_anyHasKey_s (x : ST) (a1 : Int32) (k : Nat) (i : Int32) : L_Doors_anyHasKey x a1 (k + 1) i = if (q_dn x) ≤ i then 0 else (if ((q_dk x) i.toNatClampNeg) = a1 then 1 else L_Doors_anyHasKey x a1 k (i + 1)) := rfl
def f_Doors_anyHasKey (x : ST) (a1 : Int32) : Int32 := L_Doors_anyHasKey x a1 81 0
set_option maxHeartbeats 4000000 in
set_option maxRecDepth 100000 in
theorem c_Doors_anyHasKey (l : Launch) (dC : Nat → ClassId) (dI : Nat → Nat → Nat) (cI cZ : ClassId) (ad : Nat → Nat) (x : ST) (hI : CIn x) (a1 : Int32) : MX l y_Doors_anyHasKey (Cond.code y_Doors_anyHasKey b_Doors_anyHasKey 3 (some .boolean) :: BW) { frames := 0, cells := 0, slots := 0, locals := 0 } (PC (dC, dI) [(cI, .int), (cZ, .boolean)] (wC cI cZ ad x) [.ref (ad 2), .int a1]) (PQ (some (.int (f_Doors_anyHasKey x a1)))) 0 0 (fun _ => False) := by
  refine MX.ofW (cc := b_Doors_anyHasKey) (maxL := 3) (ret := (some .boolean)) (by decide) rfl ?_
  intro p e s m args below meth c s₁ B hml hex hv
  obtain ⟨rfl, hP, hK, hN⟩ := hv
  have hx := B.exec
  have hb := B.bytes
  have hr := B.returns
  have hts := atoms_spec (ws := Cond.code y_Doors_anyHasKey b_Doors_anyHasKey 3 (some .boolean) :: BW) B.pre
  have hbw : ∀ w ∈ BW, w.before ([.ref (ad 2), .int a1]).toArray s = true := fun w h => hts w (List.mem_cons_of_mem _ h)
  have hown : s.vm.findClass "PlanRows$Doors" = some m.cls := findClass_of_methodNamed B.named
  have hlocks := B.notSynchronized
  have hl := lv_entry ([.ref (ad 2), .int a1]) (n := 3) (Nat.le_of_ble_eq_true rfl)
  rw [lg_entry_eq]
  generalize (lg_sl ([.ref (ad 2), .int a1]) ++ List.replicate (3 - (lg_sl ([.ref (ad 2), .int a1])).length) Slot.unset).toArray = ls at hl ⊢
  have hl : lv_has ls 3 [(0, .ref (ad 2)), (1, .int a1)] := hl
  refine lv_iconst (v := 0) hx hb d_Doors_anyHasKey_0 (by decide) ?_
  refine lv_istore_n (lv' := [(2, .int 0), (0, .ref (ad 2)), (1, .int a1)]) hx hb d_Doors_anyHasKey_1 rfl hl (by decide) rfl (fun ls hl => ?_)
  have loop : ∀ (k : Nat) (i : Int32) (ls : Array Slot), 0 ≤ i.toInt ∧ i.toInt ≤ (q_dn x).toInt ∧ (q_dn x).toInt - i.toInt < ((k : Nat) : Int) → f_Doors_anyHasKey x a1 = L_Doors_anyHasKey x a1 k i → lv_has ls 3 [(2, .int i), (0, .ref (ad 2)), (1, .int a1)] → W p l e { frames := 0, cells := 0, slots := 0, locals := 0 } s m ([.ref (ad 2), .int a1]).toArray below meth c s.heap [] 0 0 (MQX below (PQ (some (.int (f_Doors_anyHasKey x a1)))) ([.ref (ad 2), .int a1]).toArray s 0 0 (fun _ => False)) (F0 m 2 ls []) := by
    intro k
    induction k with
    | zero =>
      intro i ls hi hq hl
      obtain ⟨h1, h2, h3⟩ := hi
      omega
    | succ k ih =>
      intro i ls hi hq hl
      have hq := hq.trans (L_Doors_anyHasKey_s x a1 k i)
      refine lv_iload_n hx hb d_Doors_anyHasKey_2 rfl (lv_at hl 0 rfl) ?_
      refine lv_aload_n hx hb d_Doors_anyHasKey_3 rfl (lv_at hl 1 rfl) ?_
      refine va_get (D := (dC, dI)) (ci := 2) (v := .int (q_dn x)) (C := R_Doors) (T := F_Doors) (N := 5) hx hb hbw in_Doors hown hK hP 2 rfl rfl 4 (by decide) (hbw _ w_60) (fun _ h9 => h9) rfl d_Doors_anyHasKey_4 ?_
      refine lv_icmp_ge (tgt := 28) hx hb d_Doors_anyHasKey_7 (by decide) (fun c_1 => ?_) (fun c_1 => ?_)
      · refine lv_iconst (v := 0) hx hb d_Doors_anyHasKey_28 (by decide) ?_
        exact W.toX (W.zret (v := 0) (ty := .boolean) hx hb hr (by rfl) (fun t ht hW => ⟨by rw [show f_Doors_anyHasKey x a1 = 0 from by rw [hq, if_pos c_1]], ht⟩) (fun q hq => by cases hq) d_Doors_anyHasKey_29)
      · refine lv_aload_n hx hb d_Doors_anyHasKey_10 rfl (lv_at hl 1 rfl) ?_
        refine va_get (D := (dC, dI)) (ci := 2) (v := .ref (ad 15)) (C := R_Doors) (T := F_Doors) (N := 5) hx hb hbw in_Doors hown hK hP 2 rfl rfl 3 (by decide) (hbw _ w_59) (fun _ h9 => h9) rfl d_Doors_anyHasKey_11 ?_
        refine lv_iload_n hx hb d_Doors_anyHasKey_14 rfl (lv_at hl 0 rfl) ?_
        refine va_iald hx hb hK hP 15 0 rfl rfl (ix_ge hi c_1 hI.2.1.2) d_Doors_anyHasKey_15 ?_
        refine lv_iload_n hx hb d_Doors_anyHasKey_16 rfl (lv_at hl 2 rfl) ?_
        refine lv_icmp_ne (tgt := 22) hx hb d_Doors_anyHasKey_17 (by decide) (fun c_2 => ?_) (fun c_2 => ?_)
        · refine lv_iinc (v := i + 1) (lv' := [(2, .int (i + 1)), (0, .ref (ad 2)), (1, .int a1)]) hx hb d_Doors_anyHasKey_22 hl (k := 0) rfl rfl (by decide) rfl (fun ls hl => ?_)
          refine lv_goto (tgt := 2) hx hb d_Doors_anyHasKey_25 (by decide) ?_
          exact ih (i + 1) ls (lp_inc hi c_1 hI.2.1.2 (by decide)) (by rw [hq, if_neg c_1, if_neg c_2]) (lv_sub hl [0, 1, 2] rfl)
        · refine lv_iconst (v := 1) hx hb d_Doors_anyHasKey_20 (by decide) ?_
          exact W.toX (W.zret (v := 1) (ty := .boolean) hx hb hr (by rfl) (fun t ht hW => ⟨by rw [show f_Doors_anyHasKey x a1 = 1 from by rw [hq, if_neg c_1, if_pos c_2]], ht⟩) (fun q hq => by cases hq) d_Doors_anyHasKey_21)
  exact loop 81 0 ls (lp_0 (N := 80) hI.2.1 (by decide)) (rfl) (lv_sub hl [0, 1, 2] rfl)
def L_Det_roomOf (x : ST) (a1 a2 : Int32) : Nat → Int32 → Int32
  | 0, _ => 0
  | k + 1, i => if (q_tc x) ≤ i then (-1) else (if ((q_tl x) i.toNatClampNeg) = a1 then (if ((q_tn x) i.toNatClampNeg) = a2 then (q_tr x) i.toNatClampNeg else L_Det_roomOf x a1 a2 k (i + 1)) else L_Det_roomOf x a1 a2 k (i + 1))
theorem L_Det_roomOf_s (x : ST) (a1 a2 : Int32) (k : Nat) (i : Int32) : L_Det_roomOf x a1 a2 (k + 1) i = if (q_tc x) ≤ i then (-1) else (if ((q_tl x) i.toNatClampNeg) = a1 then (if ((q_tn x) i.toNatClampNeg) = a2 then (q_tr x) i.toNatClampNeg else L_Det_roomOf x a1 a2 k (i + 1)) else L_Det_roomOf x a1 a2 k (i + 1)) := rfl
def f_Det_roomOf (x : ST) (a1 a2 : Int32) : Int32 := L_Det_roomOf x a1 a2 101 0
set_option maxHeartbeats 4000000 in
set_option maxRecDepth 100000 in
theorem c_Det_roomOf (l : Launch) (dC : Nat → ClassId) (dI : Nat → Nat → Nat) (cI cZ : ClassId) (ad : Nat → Nat) (x : ST) (hI : CIn x) (a1 a2 : Int32) : MX l y_Det_roomOf (Cond.code y_Det_roomOf b_Det_roomOf 4 (some .int) :: BW) { frames := 0, cells := 0, slots := 0, locals := 0 } (PC (dC, dI) [(cI, .int), (cZ, .boolean)] (wC cI cZ ad x) [.ref (ad 6), .int a1, .int a2]) (PQ (some (.int (f_Det_roomOf x a1 a2)))) 0 0 (fun _ => False) := by
  refine MX.ofW (cc := b_Det_roomOf) (maxL := 4) (ret := (some .int)) (by decide) rfl ?_
  intro p e s m args below meth c s₁ B hml hex hv
  obtain ⟨rfl, hP, hK, hN⟩ := hv
  have hx := B.exec
  have hb := B.bytes
  have hr := B.returns
  have hts := atoms_spec (ws := Cond.code y_Det_roomOf b_Det_roomOf 4 (some .int) :: BW) B.pre
  have hbw : ∀ w ∈ BW, w.before ([.ref (ad 6), .int a1, .int a2]).toArray s = true := fun w h => hts w (List.mem_cons_of_mem _ h)
  have hown : s.vm.findClass "PlanRows$Detectors" = some m.cls := findClass_of_methodNamed B.named
  have hlocks := B.notSynchronized
  have hl := lv_entry ([.ref (ad 6), .int a1, .int a2]) (n := 4) (Nat.le_of_ble_eq_true rfl)
  rw [lg_entry_eq]
  generalize (lg_sl ([.ref (ad 6), .int a1, .int a2]) ++ List.replicate (4 - (lg_sl ([.ref (ad 6), .int a1, .int a2])).length) Slot.unset).toArray = ls at hl ⊢
  have hl : lv_has ls 4 [(0, .ref (ad 6)), (1, .int a1), (2, .int a2)] := hl
  refine lv_iconst (v := 0) hx hb d_Det_roomOf_0 (by decide) ?_
  refine lv_istore_n (lv' := [(3, .int 0), (0, .ref (ad 6)), (1, .int a1), (2, .int a2)]) hx hb d_Det_roomOf_1 rfl hl (by decide) rfl (fun ls hl => ?_)
  have loop : ∀ (k : Nat) (i : Int32) (ls : Array Slot), 0 ≤ i.toInt ∧ i.toInt ≤ (q_tc x).toInt ∧ (q_tc x).toInt - i.toInt < ((k : Nat) : Int) → f_Det_roomOf x a1 a2 = L_Det_roomOf x a1 a2 k i → lv_has ls 4 [(3, .int i), (0, .ref (ad 6)), (1, .int a1), (2, .int a2)] → W p l e { frames := 0, cells := 0, slots := 0, locals := 0 } s m ([.ref (ad 6), .int a1, .int a2]).toArray below meth c s.heap [] 0 0 (MQX below (PQ (some (.int (f_Det_roomOf x a1 a2)))) ([.ref (ad 6), .int a1, .int a2]).toArray s 0 0 (fun _ => False)) (F0 m 2 ls []) := by
    intro k
    induction k with
    | zero =>
      intro i ls hi hq hl
      obtain ⟨h1, h2, h3⟩ := hi
      omega
    | succ k ih =>
      intro i ls hi hq hl
      have hq := hq.trans (L_Det_roomOf_s x a1 a2 k i)
      refine lv_iload_n hx hb d_Det_roomOf_2 rfl (lv_at hl 0 rfl) ?_
      refine lv_aload_n hx hb d_Det_roomOf_3 rfl (lv_at hl 1 rfl) ?_
      refine va_get (D := (dC, dI)) (ci := 1) (v := .int (q_tc x)) (C := R_Det) (T := F_Det) (N := 4) hx hb hbw in_Det hown hK hP 6 rfl rfl 3 (by decide) (hbw _ w_139) (fun _ h9 => h9) rfl d_Det_roomOf_4 ?_
      refine lv_icmp_ge (tgt := 43) hx hb d_Det_roomOf_7 (by decide) (fun c_1 => ?_) (fun c_1 => ?_)
      · refine lv_iconst (v := (-1)) hx hb d_Det_roomOf_43 (by decide) ?_
        exact W.toX (W.iret (v := (-1)) hx hb hr (fun t ht hW => ⟨by rw [show f_Det_roomOf x a1 a2 = (-1) from by rw [hq, if_pos c_1]], ht⟩) (fun q hq => by cases hq) d_Det_roomOf_44)
      · refine lv_aload_n hx hb d_Det_roomOf_10 rfl (lv_at hl 1 rfl) ?_
        refine va_get (D := (dC, dI)) (ci := 1) (v := .ref (ad 19)) (C := R_Det) (T := F_Det) (N := 4) hx hb hbw in_Det hown hK hP 6 rfl rfl 0 (by decide) (hbw _ w_136) (fun _ h9 => h9) rfl d_Det_roomOf_11 ?_
        refine lv_iload_n hx hb d_Det_roomOf_14 rfl (lv_at hl 0 rfl) ?_
        refine va_iald hx hb hK hP 19 0 rfl rfl (ix_ge hi c_1 hI.2.2.1.2) d_Det_roomOf_15 ?_
        refine lv_iload_n hx hb d_Det_roomOf_16 rfl (lv_at hl 2 rfl) ?_
        refine lv_icmp_ne (tgt := 37) hx hb d_Det_roomOf_17 (by decide) (fun c_2 => ?_) (fun c_2 => ?_)
        · refine lv_iinc (v := i + 1) (lv' := [(3, .int (i + 1)), (0, .ref (ad 6)), (1, .int a1), (2, .int a2)]) hx hb d_Det_roomOf_37 hl (k := 0) rfl rfl (by decide) rfl (fun ls hl => ?_)
          refine lv_goto (tgt := 2) hx hb d_Det_roomOf_40 (by decide) ?_
          exact ih (i + 1) ls (lp_inc hi c_1 hI.2.2.1.2 (by decide)) (by rw [hq, if_neg c_1, if_neg c_2]) (lv_sub hl [0, 1, 2, 3] rfl)
        · refine lv_aload_n hx hb d_Det_roomOf_20 rfl (lv_at hl 1 rfl) ?_
          refine va_get (D := (dC, dI)) (ci := 1) (v := .ref (ad 20)) (C := R_Det) (T := F_Det) (N := 4) hx hb hbw in_Det hown hK hP 6 rfl rfl 1 (by decide) (hbw _ w_137) (fun _ h9 => h9) rfl d_Det_roomOf_21 ?_
          refine lv_iload_n hx hb d_Det_roomOf_24 rfl (lv_at hl 0 rfl) ?_
          refine va_iald hx hb hK hP 20 0 rfl rfl (ix_ge hi c_1 hI.2.2.1.2) d_Det_roomOf_25 ?_
          refine lv_iload_n hx hb d_Det_roomOf_26 rfl (lv_at hl 3 rfl) ?_
          refine lv_icmp_ne (tgt := 37) hx hb d_Det_roomOf_27 (by decide) (fun c_3 => ?_) (fun c_3 => ?_)
          · refine lv_iinc (v := i + 1) (lv' := [(3, .int (i + 1)), (0, .ref (ad 6)), (1, .int a1), (2, .int a2)]) hx hb d_Det_roomOf_37 hl (k := 0) rfl rfl (by decide) rfl (fun ls hl => ?_)
            refine lv_goto (tgt := 2) hx hb d_Det_roomOf_40 (by decide) ?_
            exact ih (i + 1) ls (lp_inc hi c_1 hI.2.2.1.2 (by decide)) (by rw [hq, if_neg c_1, if_pos c_2, if_neg c_3]) (lv_sub hl [0, 1, 2, 3] rfl)
          · refine lv_aload_n hx hb d_Det_roomOf_30 rfl (lv_at hl 1 rfl) ?_
            refine va_get (D := (dC, dI)) (ci := 1) (v := .ref (ad 21)) (C := R_Det) (T := F_Det) (N := 4) hx hb hbw in_Det hown hK hP 6 rfl rfl 2 (by decide) (hbw _ w_138) (fun _ h9 => h9) rfl d_Det_roomOf_31 ?_
            refine lv_iload_n hx hb d_Det_roomOf_34 rfl (lv_at hl 0 rfl) ?_
            refine va_iald hx hb hK hP 21 0 rfl rfl (ix_ge hi c_1 hI.2.2.1.2) d_Det_roomOf_35 ?_
            exact W.toX (W.iret (v := (q_tr x) i.toNatClampNeg) hx hb hr (fun t ht hW => ⟨by rw [show f_Det_roomOf x a1 a2 = (q_tr x) i.toNatClampNeg from by rw [hq, if_neg c_1, if_pos c_2, if_pos c_3]], ht⟩) (fun q hq => by cases hq) d_Det_roomOf_36)
  exact loop 101 0 ls (lp_0 (N := 100) hI.2.2.1 (by decide)) (rfl) (lv_sub hl [0, 1, 2, 3] rfl)
def L_Crowd_sum (x : ST) (a1 a2 : Int32) : Nat → Int32 → Int32 → Int32
  | 0, _, _ => 0
  | k + 1, n, i => if (q_pc x) ≤ i then n else (if a1 = (-1) then (if (f_Crowd_isBetween a2 ((q_pa x) i.toNatClampNeg) ((q_pb x) i.toNatClampNeg)) = 0 then L_Crowd_sum x a1 a2 k n (i + 1) else L_Crowd_sum x a1 a2 k (n + ((q_pn x) i.toNatClampNeg)) (i + 1)) else (if ((q_pf x) i.toNatClampNeg) = a1 then (if (f_Crowd_isBetween a2 ((q_pa x) i.toNatClampNeg) ((q_pb x) i.toNatClampNeg)) = 0 then L_Crowd_sum x a1 a2 k n (i + 1) else L_Crowd_sum x a1 a2 k (n + ((q_pn x) i.toNatClampNeg)) (i + 1)) else L_Crowd_sum x a1 a2 k n (i + 1)))
theorem L_Crowd_sum_s (x : ST) (a1 a2 : Int32) (k : Nat) (n i : Int32) : L_Crowd_sum x a1 a2 (k + 1) n i = if (q_pc x) ≤ i then n else (if a1 = (-1) then (if (f_Crowd_isBetween a2 ((q_pa x) i.toNatClampNeg) ((q_pb x) i.toNatClampNeg)) = 0 then L_Crowd_sum x a1 a2 k n (i + 1) else L_Crowd_sum x a1 a2 k (n + ((q_pn x) i.toNatClampNeg)) (i + 1)) else (if ((q_pf x) i.toNatClampNeg) = a1 then (if (f_Crowd_isBetween a2 ((q_pa x) i.toNatClampNeg) ((q_pb x) i.toNatClampNeg)) = 0 then L_Crowd_sum x a1 a2 k n (i + 1) else L_Crowd_sum x a1 a2 k (n + ((q_pn x) i.toNatClampNeg)) (i + 1)) else L_Crowd_sum x a1 a2 k n (i + 1))) := rfl
def f_Crowd_sum (x : ST) (a1 a2 : Int32) : Int32 := L_Crowd_sum x a1 a2 61 0 0
set_option maxHeartbeats 4000000 in
set_option maxRecDepth 100000 in
theorem c_Crowd_sum (l : Launch) (dC : Nat → ClassId) (dI : Nat → Nat → Nat) (cI cZ : ClassId) (ad : Nat → Nat) (x : ST) (hI : CIn x) (a1 a2 : Int32) : MX l y_Crowd_sum (Cond.code y_Crowd_sum b_Crowd_sum 6 (some .int) :: BW) { frames := 1, cells := 0, slots := 0, locals := 23 } (PC (dC, dI) [(cI, .int), (cZ, .boolean)] (wC cI cZ ad x) [.ref (ad 7), .int a1, .int a2]) (PQ (some (.int (f_Crowd_sum x a1 a2)))) 0 0 (fun _ => False) := by
  refine MX.ofW (cc := b_Crowd_sum) (maxL := 6) (ret := (some .int)) (by decide) rfl ?_
  intro p e s m args below meth c s₁ B hml hex hv
  obtain ⟨rfl, hP, hK, hN⟩ := hv
  have hx := B.exec
  have hb := B.bytes
  have hr := B.returns
  have hts := atoms_spec (ws := Cond.code y_Crowd_sum b_Crowd_sum 6 (some .int) :: BW) B.pre
  have hbw : ∀ w ∈ BW, w.before ([.ref (ad 7), .int a1, .int a2]).toArray s = true := fun w h => hts w (List.mem_cons_of_mem _ h)
  have hown : s.vm.findClass "PlanRows$Crowd" = some m.cls := findClass_of_methodNamed B.named
  have hlocks := B.notSynchronized
  have hl := lv_entry ([.ref (ad 7), .int a1, .int a2]) (n := 6) (Nat.le_of_ble_eq_true rfl)
  rw [lg_entry_eq]
  generalize (lg_sl ([.ref (ad 7), .int a1, .int a2]) ++ List.replicate (6 - (lg_sl ([.ref (ad 7), .int a1, .int a2])).length) Slot.unset).toArray = ls at hl ⊢
  have hl : lv_has ls 6 [(0, .ref (ad 7)), (1, .int a1), (2, .int a2)] := hl
  refine lv_iconst (v := 0) hx hb d_Crowd_sum_0 (by decide) ?_
  refine lv_istore_n (lv' := [(3, .int 0), (0, .ref (ad 7)), (1, .int a1), (2, .int a2)]) hx hb d_Crowd_sum_1 rfl hl (by decide) rfl (fun ls hl => ?_)
  refine lv_iconst (v := 0) hx hb d_Crowd_sum_2 (by decide) ?_
  refine lv_istore (lv' := [(4, .int 0), (3, .int 0), (0, .ref (ad 7)), (1, .int a1), (2, .int a2)]) hx hb d_Crowd_sum_3 hl (by decide) rfl (fun ls hl => ?_)
  have loop : ∀ (k : Nat) (n i : Int32) (ls : Array Slot), 0 ≤ i.toInt ∧ i.toInt ≤ (q_pc x).toInt ∧ (q_pc x).toInt - i.toInt < ((k : Nat) : Int) → f_Crowd_sum x a1 a2 = L_Crowd_sum x a1 a2 k n i → lv_has ls 6 [(4, .int i), (3, .int n), (0, .ref (ad 7)), (1, .int a1), (2, .int a2)] → W p l e { frames := 1, cells := 0, slots := 0, locals := 23 } s m ([.ref (ad 7), .int a1, .int a2]).toArray below meth c s.heap [] 0 0 (MQX below (PQ (some (.int (f_Crowd_sum x a1 a2)))) ([.ref (ad 7), .int a1, .int a2]).toArray s 0 0 (fun _ => False)) (F0 m 5 ls []) := by
    intro k
    induction k with
    | zero =>
      intro n i ls hi hq hl
      obtain ⟨h1, h2, h3⟩ := hi
      omega
    | succ k ih =>
      intro n i ls hi hq hl
      have hq := hq.trans (L_Crowd_sum_s x a1 a2 k n i)
      refine lv_iload hx hb d_Crowd_sum_5 (lv_at hl 0 rfl) ?_
      refine lv_aload_n hx hb d_Crowd_sum_7 rfl (lv_at hl 2 rfl) ?_
      refine va_get (D := (dC, dI)) (ci := 0) (v := .int (q_pc x)) (C := R_Crowd) (T := F_Crowd) (N := 5) hx hb hbw in_Crowd hown hK hP 7 rfl rfl 4 (by decide) (hbw _ w_160) (fun _ h9 => h9) rfl d_Crowd_sum_8 ?_
      refine lv_icmp_ge (tgt := 79) hx hb d_Crowd_sum_11 (by decide) (fun c_1 => ?_) (fun c_1 => ?_)
      · refine lv_iload_n hx hb d_Crowd_sum_79 rfl (lv_at hl 1 rfl) ?_
        exact W.toX (W.iret (v := n) hx hb hr (fun t ht hW => ⟨by rw [show f_Crowd_sum x a1 a2 = n from by rw [hq, if_pos c_1]], ht⟩) (fun q hq => by cases hq) d_Crowd_sum_80)
      · refine lv_iload_n hx hb d_Crowd_sum_14 rfl (lv_at hl 3 rfl) ?_
        refine lv_iconst (v := (-1)) hx hb d_Crowd_sum_15 (by decide) ?_
        refine lv_icmp_eq (tgt := 30) hx hb d_Crowd_sum_16 (by decide) (fun c_2 => ?_) (fun c_2 => ?_)
        · refine lv_iconst (v := 1) hx hb d_Crowd_sum_30 (by decide) ?_
          refine lv_goto (tgt := 35) hx hb d_Crowd_sum_31 (by decide) ?_
          refine lv_istore (lv' := [(5, .int 1), (4, .int i), (3, .int n), (0, .ref (ad 7)), (1, .int a1), (2, .int a2)]) hx hb d_Crowd_sum_35 hl (by decide) rfl (fun ls hl => ?_)
          refine lv_iload hx hb d_Crowd_sum_37 (lv_at hl 0 rfl) ?_
          refine lv_if_eq (tgt := 73) hx hb d_Crowd_sum_39 (by decide) (fun c_3 => ?_) (fun c_3 => ?_)
          · exact absurd c_3 (by decide)
          · refine lv_iload_n hx hb d_Crowd_sum_42 rfl (lv_at hl 5 rfl) ?_
            refine lv_aload_n hx hb d_Crowd_sum_43 rfl (lv_at hl 3 rfl) ?_
            refine va_get (D := (dC, dI)) (ci := 0) (v := .ref (ad 23)) (C := R_Crowd) (T := F_Crowd) (N := 5) hx hb hbw in_Crowd hown hK hP 7 rfl rfl 1 (by decide) (hbw _ w_157) (fun _ h9 => h9) rfl d_Crowd_sum_44 ?_
            refine lv_iload hx hb d_Crowd_sum_47 (lv_at hl 1 rfl) ?_
            refine va_iald hx hb hK hP 23 0 rfl rfl (ix_ge hi c_1 hI.2.2.2.1.2) d_Crowd_sum_49 ?_
            refine lv_aload_n hx hb d_Crowd_sum_50 rfl (lv_at hl 3 rfl) ?_
            refine va_get (D := (dC, dI)) (ci := 0) (v := .ref (ad 24)) (C := R_Crowd) (T := F_Crowd) (N := 5) hx hb hbw in_Crowd hown hK hP 7 rfl rfl 2 (by decide) (hbw _ w_158) (fun _ h9 => h9) rfl d_Crowd_sum_51 ?_
            refine lv_iload hx hb d_Crowd_sum_54 (lv_at hl 1 rfl) ?_
            refine va_iald hx hb hK hP 24 0 rfl rfl (ix_ge hi c_1 hI.2.2.2.1.2) d_Crowd_sum_56 ?_
            refine xs (As := [.int a2, .int ((q_pa x) i.toNatClampNeg), .int ((q_pb x) i.toNatClampNeg)]) (rest := []) ⟨hx, hb, hml, hown, hts⟩ (c_Crowd_isBetween l dC dI _ _ a2 ((q_pa x) i.toNatClampNeg) ((q_pb x) i.toNatClampNeg)) (cw_Crowd_28 hts rfl rfl ⟨Nat.le_of_ble_eq_true rfl, Nat.le_of_ble_eq_true rfl⟩) hK hN hP rfl hl.1 rfl (Nat.le_of_ble_eq_true rfl) d_Crowd_sum_57 ⟨Nat.zero_le _, Nat.zero_le _⟩ ?_
            refine lv_if_eq (tgt := 73) hx hb d_Crowd_sum_60 (by decide) (fun c_4 => ?_) (fun c_4 => ?_)
            · refine lv_iinc (v := i + 1) (lv' := [(4, .int (i + 1)), (5, .int 1), (3, .int n), (0, .ref (ad 7)), (1, .int a1), (2, .int a2)]) hx hb d_Crowd_sum_73 hl (k := 1) rfl rfl (by decide) rfl (fun ls hl => ?_)
              refine lv_goto (tgt := 5) hx hb d_Crowd_sum_76 (by decide) ?_
              exact ih n (i + 1) ls (lp_inc hi c_1 hI.2.2.2.1.2 (by decide)) (by rw [hq, if_neg c_1, if_pos c_2, if_pos c_4]) (lv_sub hl [0, 2, 3, 4, 5] rfl)
            · refine lv_iload_n hx hb d_Crowd_sum_63 rfl (lv_at hl 2 rfl) ?_
              refine lv_aload_n hx hb d_Crowd_sum_64 rfl (lv_at hl 3 rfl) ?_
              refine va_get (D := (dC, dI)) (ci := 0) (v := .ref (ad 25)) (C := R_Crowd) (T := F_Crowd) (N := 5) hx hb hbw in_Crowd hown hK hP 7 rfl rfl 3 (by decide) (hbw _ w_159) (fun _ h9 => h9) rfl d_Crowd_sum_65 ?_
              refine lv_iload hx hb d_Crowd_sum_68 (lv_at hl 1 rfl) ?_
              refine va_iald hx hb hK hP 25 0 rfl rfl (ix_ge hi c_1 hI.2.2.2.1.2) d_Crowd_sum_70 ?_
              refine lv_iadd hx hb d_Crowd_sum_71 ?_
              refine lv_istore_n (lv' := [(3, .int (n + ((q_pn x) i.toNatClampNeg))), (5, .int 1), (4, .int i), (0, .ref (ad 7)), (1, .int a1), (2, .int a2)]) hx hb d_Crowd_sum_72 rfl hl (by decide) rfl (fun ls hl => ?_)
              refine lv_iinc (v := i + 1) (lv' := [(4, .int (i + 1)), (3, .int (n + ((q_pn x) i.toNatClampNeg))), (5, .int 1), (0, .ref (ad 7)), (1, .int a1), (2, .int a2)]) hx hb d_Crowd_sum_73 hl (k := 2) rfl rfl (by decide) rfl (fun ls hl => ?_)
              refine lv_goto (tgt := 5) hx hb d_Crowd_sum_76 (by decide) ?_
              exact ih (n + ((q_pn x) i.toNatClampNeg)) (i + 1) ls (lp_inc hi c_1 hI.2.2.2.1.2 (by decide)) (by rw [hq, if_neg c_1, if_pos c_2, if_neg c_4]) (lv_sub hl [0, 1, 3, 4, 5] rfl)
        · refine lv_aload_n hx hb d_Crowd_sum_19 rfl (lv_at hl 2 rfl) ?_
          refine va_get (D := (dC, dI)) (ci := 0) (v := .ref (ad 22)) (C := R_Crowd) (T := F_Crowd) (N := 5) hx hb hbw in_Crowd hown hK hP 7 rfl rfl 0 (by decide) (hbw _ w_156) (fun _ h9 => h9) rfl d_Crowd_sum_20 ?_
          refine lv_iload hx hb d_Crowd_sum_23 (lv_at hl 0 rfl) ?_
          refine va_iald hx hb hK hP 22 0 rfl rfl (ix_ge hi c_1 hI.2.2.2.1.2) d_Crowd_sum_25 ?_
          refine lv_iload_n hx hb d_Crowd_sum_26 rfl (lv_at hl 3 rfl) ?_
          refine lv_icmp_ne (tgt := 34) hx hb d_Crowd_sum_27 (by decide) (fun c_5 => ?_) (fun c_5 => ?_)
          · refine lv_iconst (v := 0) hx hb d_Crowd_sum_34 (by decide) ?_
            refine lv_istore (lv' := [(5, .int 0), (4, .int i), (3, .int n), (0, .ref (ad 7)), (1, .int a1), (2, .int a2)]) hx hb d_Crowd_sum_35 hl (by decide) rfl (fun ls hl => ?_)
            refine lv_iload hx hb d_Crowd_sum_37 (lv_at hl 0 rfl) ?_
            refine lv_if_eq (tgt := 73) hx hb d_Crowd_sum_39 (by decide) (fun c_6 => ?_) (fun c_6 => ?_)
            · refine lv_iinc (v := i + 1) (lv' := [(4, .int (i + 1)), (5, .int 0), (3, .int n), (0, .ref (ad 7)), (1, .int a1), (2, .int a2)]) hx hb d_Crowd_sum_73 hl (k := 1) rfl rfl (by decide) rfl (fun ls hl => ?_)
              refine lv_goto (tgt := 5) hx hb d_Crowd_sum_76 (by decide) ?_
              exact ih n (i + 1) ls (lp_inc hi c_1 hI.2.2.2.1.2 (by decide)) (by rw [hq, if_neg c_1, if_neg c_2, if_neg c_5]) (lv_sub hl [0, 2, 3, 4, 5] rfl)
            · exact absurd c_6 (by decide)
          · refine lv_iconst (v := 1) hx hb d_Crowd_sum_30 (by decide) ?_
            refine lv_goto (tgt := 35) hx hb d_Crowd_sum_31 (by decide) ?_
            refine lv_istore (lv' := [(5, .int 1), (4, .int i), (3, .int n), (0, .ref (ad 7)), (1, .int a1), (2, .int a2)]) hx hb d_Crowd_sum_35 hl (by decide) rfl (fun ls hl => ?_)
            refine lv_iload hx hb d_Crowd_sum_37 (lv_at hl 0 rfl) ?_
            refine lv_if_eq (tgt := 73) hx hb d_Crowd_sum_39 (by decide) (fun c_7 => ?_) (fun c_7 => ?_)
            · exact absurd c_7 (by decide)
            · refine lv_iload_n hx hb d_Crowd_sum_42 rfl (lv_at hl 5 rfl) ?_
              refine lv_aload_n hx hb d_Crowd_sum_43 rfl (lv_at hl 3 rfl) ?_
              refine va_get (D := (dC, dI)) (ci := 0) (v := .ref (ad 23)) (C := R_Crowd) (T := F_Crowd) (N := 5) hx hb hbw in_Crowd hown hK hP 7 rfl rfl 1 (by decide) (hbw _ w_157) (fun _ h9 => h9) rfl d_Crowd_sum_44 ?_
              refine lv_iload hx hb d_Crowd_sum_47 (lv_at hl 1 rfl) ?_
              refine va_iald hx hb hK hP 23 0 rfl rfl (ix_ge hi c_1 hI.2.2.2.1.2) d_Crowd_sum_49 ?_
              refine lv_aload_n hx hb d_Crowd_sum_50 rfl (lv_at hl 3 rfl) ?_
              refine va_get (D := (dC, dI)) (ci := 0) (v := .ref (ad 24)) (C := R_Crowd) (T := F_Crowd) (N := 5) hx hb hbw in_Crowd hown hK hP 7 rfl rfl 2 (by decide) (hbw _ w_158) (fun _ h9 => h9) rfl d_Crowd_sum_51 ?_
              refine lv_iload hx hb d_Crowd_sum_54 (lv_at hl 1 rfl) ?_
              refine va_iald hx hb hK hP 24 0 rfl rfl (ix_ge hi c_1 hI.2.2.2.1.2) d_Crowd_sum_56 ?_
              refine xs (As := [.int a2, .int ((q_pa x) i.toNatClampNeg), .int ((q_pb x) i.toNatClampNeg)]) (rest := []) ⟨hx, hb, hml, hown, hts⟩ (c_Crowd_isBetween l dC dI _ _ a2 ((q_pa x) i.toNatClampNeg) ((q_pb x) i.toNatClampNeg)) (cw_Crowd_28 hts rfl rfl ⟨Nat.le_of_ble_eq_true rfl, Nat.le_of_ble_eq_true rfl⟩) hK hN hP rfl hl.1 rfl (Nat.le_of_ble_eq_true rfl) d_Crowd_sum_57 ⟨Nat.zero_le _, Nat.zero_le _⟩ ?_
              refine lv_if_eq (tgt := 73) hx hb d_Crowd_sum_60 (by decide) (fun c_8 => ?_) (fun c_8 => ?_)
              · refine lv_iinc (v := i + 1) (lv' := [(4, .int (i + 1)), (5, .int 1), (3, .int n), (0, .ref (ad 7)), (1, .int a1), (2, .int a2)]) hx hb d_Crowd_sum_73 hl (k := 1) rfl rfl (by decide) rfl (fun ls hl => ?_)
                refine lv_goto (tgt := 5) hx hb d_Crowd_sum_76 (by decide) ?_
                exact ih n (i + 1) ls (lp_inc hi c_1 hI.2.2.2.1.2 (by decide)) (by rw [hq, if_neg c_1, if_neg c_2, if_pos c_5, if_pos c_8]) (lv_sub hl [0, 2, 3, 4, 5] rfl)
              · refine lv_iload_n hx hb d_Crowd_sum_63 rfl (lv_at hl 2 rfl) ?_
                refine lv_aload_n hx hb d_Crowd_sum_64 rfl (lv_at hl 3 rfl) ?_
                refine va_get (D := (dC, dI)) (ci := 0) (v := .ref (ad 25)) (C := R_Crowd) (T := F_Crowd) (N := 5) hx hb hbw in_Crowd hown hK hP 7 rfl rfl 3 (by decide) (hbw _ w_159) (fun _ h9 => h9) rfl d_Crowd_sum_65 ?_
                refine lv_iload hx hb d_Crowd_sum_68 (lv_at hl 1 rfl) ?_
                refine va_iald hx hb hK hP 25 0 rfl rfl (ix_ge hi c_1 hI.2.2.2.1.2) d_Crowd_sum_70 ?_
                refine lv_iadd hx hb d_Crowd_sum_71 ?_
                refine lv_istore_n (lv' := [(3, .int (n + ((q_pn x) i.toNatClampNeg))), (5, .int 1), (4, .int i), (0, .ref (ad 7)), (1, .int a1), (2, .int a2)]) hx hb d_Crowd_sum_72 rfl hl (by decide) rfl (fun ls hl => ?_)
                refine lv_iinc (v := i + 1) (lv' := [(4, .int (i + 1)), (3, .int (n + ((q_pn x) i.toNatClampNeg))), (5, .int 1), (0, .ref (ad 7)), (1, .int a1), (2, .int a2)]) hx hb d_Crowd_sum_73 hl (k := 2) rfl rfl (by decide) rfl (fun ls hl => ?_)
                refine lv_goto (tgt := 5) hx hb d_Crowd_sum_76 (by decide) ?_
                exact ih (n + ((q_pn x) i.toNatClampNeg)) (i + 1) ls (lp_inc hi c_1 hI.2.2.2.1.2 (by decide)) (by rw [hq, if_neg c_1, if_neg c_2, if_pos c_5, if_neg c_8]) (lv_sub hl [0, 1, 3, 4, 5] rfl)
  exact loop 61 0 0 ls (lp_0 (N := 60) hI.2.2.2.1 (by decide)) (rfl) (lv_sub hl [0, 1, 2, 3, 4] rfl)
def L_Search_nearestOf (x : ST) (a1 : Int32) : Nat → Int32 → Int32 → Int32 → Int32
  | 0, _, _, _ => 0
  | k + 1, bst, lst, i => if (q_rn x) ≤ i then bst else (if (f_Rooms_isOfKind x i a1) = 0 then L_Search_nearestOf x a1 k bst lst (i + 1) else (if lst ≤ ((q_co x) i.toNatClampNeg) then L_Search_nearestOf x a1 k bst lst (i + 1) else L_Search_nearestOf x a1 k i ((q_co x) i.toNatClampNeg) (i + 1)))
theorem L_Search_nearestOf_s (x : ST) (a1 : Int32) (k : Nat) (bst lst i : Int32) : L_Search_nearestOf x a1 (k + 1) bst lst i = if (q_rn x) ≤ i then bst else (if (f_Rooms_isOfKind x i a1) = 0 then L_Search_nearestOf x a1 k bst lst (i + 1) else (if lst ≤ ((q_co x) i.toNatClampNeg) then L_Search_nearestOf x a1 k bst lst (i + 1) else L_Search_nearestOf x a1 k i ((q_co x) i.toNatClampNeg) (i + 1))) := rfl
def f_Search_nearestOf (x : ST) (a1 : Int32) : Int32 := L_Search_nearestOf x a1 41 (-1) 1000000000 0
set_option maxHeartbeats 4000000 in
set_option maxRecDepth 100000 in
theorem c_Search_nearestOf (l : Launch) (dC : Nat → ClassId) (dI : Nat → Nat → Nat) (cI cZ : ClassId) (ad : Nat → Nat) (x : ST) (hI : CIn x) (a1 : Int32) : MX l y_Search_nearestOf (Cond.code y_Search_nearestOf b_Search_nearestOf 5 (some .int) :: BW) { frames := 2, cells := 0, slots := 0, locals := 43 } (PC (dC, dI) [(cI, .int), (cZ, .boolean)] (wC cI cZ ad x) [.ref (ad 4), .int a1]) (PQ (some (.int (f_Search_nearestOf x a1)))) 0 0 (fun _ => False) := by
  refine MX.ofW (cc := b_Search_nearestOf) (maxL := 5) (ret := (some .int)) (by decide) rfl ?_
  intro p e s m args below meth c s₁ B hml hex hv
  obtain ⟨rfl, hP, hK, hN⟩ := hv
  have hx := B.exec
  have hb := B.bytes
  have hr := B.returns
  have hts := atoms_spec (ws := Cond.code y_Search_nearestOf b_Search_nearestOf 5 (some .int) :: BW) B.pre
  have hbw : ∀ w ∈ BW, w.before ([.ref (ad 4), .int a1]).toArray s = true := fun w h => hts w (List.mem_cons_of_mem _ h)
  have hown : s.vm.findClass "PlanRows$Search" = some m.cls := findClass_of_methodNamed B.named
  have hlocks := B.notSynchronized
  have hl := lv_entry ([.ref (ad 4), .int a1]) (n := 5) (Nat.le_of_ble_eq_true rfl)
  rw [lg_entry_eq]
  generalize (lg_sl ([.ref (ad 4), .int a1]) ++ List.replicate (5 - (lg_sl ([.ref (ad 4), .int a1])).length) Slot.unset).toArray = ls at hl ⊢
  have hl : lv_has ls 5 [(0, .ref (ad 4)), (1, .int a1)] := hl
  refine lv_iconst (v := (-1)) hx hb d_Search_nearestOf_0 (by decide) ?_
  refine lv_istore_n (lv' := [(2, .int (-1)), (0, .ref (ad 4)), (1, .int a1)]) hx hb d_Search_nearestOf_1 rfl hl (by decide) rfl (fun ls hl => ?_)
  refine lv_ldc (v := 1000000000) hx hb hown (hbw _ w_436) d_Search_nearestOf_2 ?_
  refine lv_istore_n (lv' := [(3, .int 1000000000), (2, .int (-1)), (0, .ref (ad 4)), (1, .int a1)]) hx hb d_Search_nearestOf_4 rfl hl (by decide) rfl (fun ls hl => ?_)
  refine lv_iconst (v := 0) hx hb d_Search_nearestOf_5 (by decide) ?_
  refine lv_istore (lv' := [(4, .int 0), (3, .int 1000000000), (2, .int (-1)), (0, .ref (ad 4)), (1, .int a1)]) hx hb d_Search_nearestOf_6 hl (by decide) rfl (fun ls hl => ?_)
  have loop : ∀ (k : Nat) (bst lst i : Int32) (ls : Array Slot), 0 ≤ i.toInt ∧ i.toInt ≤ (q_rn x).toInt ∧ (q_rn x).toInt - i.toInt < ((k : Nat) : Int) → f_Search_nearestOf x a1 = L_Search_nearestOf x a1 k bst lst i → lv_has ls 5 [(4, .int i), (3, .int lst), (2, .int bst), (0, .ref (ad 4)), (1, .int a1)] → W p l e { frames := 2, cells := 0, slots := 0, locals := 43 } s m ([.ref (ad 4), .int a1]).toArray below meth c s.heap [] 0 0 (MQX below (PQ (some (.int (f_Search_nearestOf x a1)))) ([.ref (ad 4), .int a1]).toArray s 0 0 (fun _ => False)) (F0 m 8 ls []) := by
    intro k
    induction k with
    | zero =>
      intro bst lst i ls hi hq hl
      obtain ⟨h1, h2, h3⟩ := hi
      omega
    | succ k ih =>
      intro bst lst i ls hi hq hl
      have hq := hq.trans (L_Search_nearestOf_s x a1 k bst lst i)
      refine lv_iload hx hb d_Search_nearestOf_8 (lv_at hl 0 rfl) ?_
      refine lv_aload_n hx hb d_Search_nearestOf_10 rfl (lv_at hl 3 rfl) ?_
      refine va_get (D := (dC, dI)) (ci := 6) (v := .ref (ad 1)) (C := R_Search) (T := F_Search) (N := 4) hx hb hbw in_Search hown hK hP 4 rfl rfl 0 (by decide) (hbw _ w_95) (fun _ h9 => h9) rfl d_Search_nearestOf_11 ?_
      refine va_getN (D := (dC, dI)) (ci := 4) (v := .int (q_rn x)) (C := R_Rooms) (T := F_Rooms) (N := 4) hx hb hbw in_Rooms hown hK hP 1 rfl rfl 3 (by decide) (va_Nw.use rfl (hN _ nw_1)) (fun _ h9 => h9) rfl d_Search_nearestOf_14 ?_
      refine lv_icmp_ge (tgt := 61) hx hb d_Search_nearestOf_17 (by decide) (fun c_1 => ?_) (fun c_1 => ?_)
      · refine lv_iload_n hx hb d_Search_nearestOf_61 rfl (lv_at hl 2 rfl) ?_
        exact W.toX (W.iret (v := bst) hx hb hr (fun t ht hW => ⟨by rw [show f_Search_nearestOf x a1 = bst from by rw [hq, if_pos c_1]], ht⟩) (fun q hq => by cases hq) d_Search_nearestOf_62)
      · refine lv_aload_n hx hb d_Search_nearestOf_20 rfl (lv_at hl 3 rfl) ?_
        refine va_get (D := (dC, dI)) (ci := 6) (v := .ref (ad 1)) (C := R_Search) (T := F_Search) (N := 4) hx hb hbw in_Search hown hK hP 4 rfl rfl 0 (by decide) (hbw _ w_95) (fun _ h9 => h9) rfl d_Search_nearestOf_21 ?_
        refine lv_iload hx hb d_Search_nearestOf_24 (lv_at hl 0 rfl) ?_
        refine lv_iload_n hx hb d_Search_nearestOf_26 rfl (lv_at hl 4 rfl) ?_
        refine xv (As := [.int i, .int a1]) (rest := []) (C := "PlanRows$Rooms") ⟨hx, hb, hml, hown, hts⟩ (c_Rooms_isOfKind l dC dI cI cZ ad x hI i a1) (cw_Search_44 hts rfl rfl ⟨Nat.le_of_ble_eq_true rfl, Nat.le_of_ble_eq_true rfl⟩) hK hN hP 1 rfl rfl rfl rfl hl.1 rfl (Nat.le_of_ble_eq_true rfl) d_Search_nearestOf_27 ⟨Nat.zero_le _, Nat.zero_le _⟩ ?_
        refine lv_if_eq (tgt := 55) hx hb d_Search_nearestOf_30 (by decide) (fun c_2 => ?_) (fun c_2 => ?_)
        · refine lv_iinc (v := i + 1) (lv' := [(4, .int (i + 1)), (3, .int lst), (2, .int bst), (0, .ref (ad 4)), (1, .int a1)]) hx hb d_Search_nearestOf_55 hl (k := 0) rfl rfl (by decide) rfl (fun ls hl => ?_)
          refine lv_goto (tgt := 8) hx hb d_Search_nearestOf_58 (by decide) ?_
          exact ih bst lst (i + 1) ls (lp_inc hi c_1 hI.1.2 (by decide)) (by rw [hq, if_neg c_1, if_pos c_2]) (lv_sub hl [0, 1, 2, 3, 4] rfl)
        · refine lv_aload_n hx hb d_Search_nearestOf_33 rfl (lv_at hl 3 rfl) ?_
          refine va_get (D := (dC, dI)) (ci := 6) (v := .ref (ad 17)) (C := R_Search) (T := F_Search) (N := 4) hx hb hbw in_Search hown hK hP 4 rfl rfl 3 (by decide) (hbw _ w_98) (fun _ h9 => h9) rfl d_Search_nearestOf_34 ?_
          refine lv_iload hx hb d_Search_nearestOf_37 (lv_at hl 0 rfl) ?_
          refine va_iald hx hb hK hP 17 0 rfl rfl (ix_ge hi c_1 hI.1.2) d_Search_nearestOf_39 ?_
          refine lv_iload_n hx hb d_Search_nearestOf_40 rfl (lv_at hl 1 rfl) ?_
          refine lv_icmp_ge (tgt := 55) hx hb d_Search_nearestOf_41 (by decide) (fun c_3 => ?_) (fun c_3 => ?_)
          · refine lv_iinc (v := i + 1) (lv' := [(4, .int (i + 1)), (3, .int lst), (2, .int bst), (0, .ref (ad 4)), (1, .int a1)]) hx hb d_Search_nearestOf_55 hl (k := 0) rfl rfl (by decide) rfl (fun ls hl => ?_)
            refine lv_goto (tgt := 8) hx hb d_Search_nearestOf_58 (by decide) ?_
            exact ih bst lst (i + 1) ls (lp_inc hi c_1 hI.1.2 (by decide)) (by rw [hq, if_neg c_1, if_neg c_2, if_pos c_3]) (lv_sub hl [0, 1, 2, 3, 4] rfl)
          · refine lv_iload hx hb d_Search_nearestOf_44 (lv_at hl 0 rfl) ?_
            refine lv_istore_n (lv' := [(2, .int i), (4, .int i), (3, .int lst), (0, .ref (ad 4)), (1, .int a1)]) hx hb d_Search_nearestOf_46 rfl hl (by decide) rfl (fun ls hl => ?_)
            refine lv_aload_n hx hb d_Search_nearestOf_47 rfl (lv_at hl 3 rfl) ?_
            refine va_get (D := (dC, dI)) (ci := 6) (v := .ref (ad 17)) (C := R_Search) (T := F_Search) (N := 4) hx hb hbw in_Search hown hK hP 4 rfl rfl 3 (by decide) (hbw _ w_98) (fun _ h9 => h9) rfl d_Search_nearestOf_48 ?_
            refine lv_iload hx hb d_Search_nearestOf_51 (lv_at hl 1 rfl) ?_
            refine va_iald hx hb hK hP 17 0 rfl rfl (ix_ge hi c_1 hI.1.2) d_Search_nearestOf_53 ?_
            refine lv_istore_n (lv' := [(3, .int ((q_co x) i.toNatClampNeg)), (2, .int i), (4, .int i), (0, .ref (ad 4)), (1, .int a1)]) hx hb d_Search_nearestOf_54 rfl hl (by decide) rfl (fun ls hl => ?_)
            refine lv_iinc (v := i + 1) (lv' := [(4, .int (i + 1)), (3, .int ((q_co x) i.toNatClampNeg)), (2, .int i), (0, .ref (ad 4)), (1, .int a1)]) hx hb d_Search_nearestOf_55 hl (k := 2) rfl rfl (by decide) rfl (fun ls hl => ?_)
            refine lv_goto (tgt := 8) hx hb d_Search_nearestOf_58 (by decide) ?_
            exact ih i ((q_co x) i.toNatClampNeg) (i + 1) ls (lp_inc hi c_1 hI.1.2 (by decide)) (by rw [hq, if_neg c_1, if_neg c_2, if_neg c_3]) (lv_sub hl [0, 1, 2, 3, 4] rfl)
  exact loop 41 (-1) 1000000000 0 ls (lp_0 (N := 40) hI.1 (by decide)) (rfl) (lv_sub hl [0, 1, 2, 3, 4] rfl)
def L_Search_unreachedAt (x : ST) (a1 : Int32) : Nat → Int32 → Int32 → Int32
  | 0, _, _ => 0
  | k + 1, lft, i => if (q_rn x) ≤ i then (-1) else (if (f_Search_isReached x i) = 0 then (if lft = 0 then i else L_Search_unreachedAt x a1 k (lft + (-1)) (i + 1)) else L_Search_unreachedAt x a1 k lft (i + 1))
theorem L_Search_unreachedAt_s (x : ST) (a1 : Int32) (k : Nat) (lft i : Int32) : L_Search_unreachedAt x a1 (k + 1) lft i = if (q_rn x) ≤ i then (-1) else (if (f_Search_isReached x i) = 0 then (if lft = 0 then i else L_Search_unreachedAt x a1 k (lft + (-1)) (i + 1)) else L_Search_unreachedAt x a1 k lft (i + 1)) := rfl
def f_Search_unreachedAt (x : ST) (a1 : Int32) : Int32 := L_Search_unreachedAt x a1 41 a1 0
set_option maxHeartbeats 4000000 in
set_option maxRecDepth 100000 in
theorem c_Search_unreachedAt (l : Launch) (dC : Nat → ClassId) (dI : Nat → Nat → Nat) (cI cZ : ClassId) (ad : Nat → Nat) (x : ST) (hI : CIn x) (a1 : Int32) : MX l y_Search_unreachedAt (Cond.code y_Search_unreachedAt b_Search_unreachedAt 4 (some .int) :: BW) { frames := 2, cells := 0, slots := 0, locals := 42 } (PC (dC, dI) [(cI, .int), (cZ, .boolean)] (wC cI cZ ad x) [.ref (ad 4), .int a1]) (PQ (some (.int (f_Search_unreachedAt x a1)))) 0 0 (fun _ => False) := by
  refine MX.ofW (cc := b_Search_unreachedAt) (maxL := 4) (ret := (some .int)) (by decide) rfl ?_
  intro p e s m args below meth c s₁ B hml hex hv
  obtain ⟨rfl, hP, hK, hN⟩ := hv
  have hx := B.exec
  have hb := B.bytes
  have hr := B.returns
  have hts := atoms_spec (ws := Cond.code y_Search_unreachedAt b_Search_unreachedAt 4 (some .int) :: BW) B.pre
  have hbw : ∀ w ∈ BW, w.before ([.ref (ad 4), .int a1]).toArray s = true := fun w h => hts w (List.mem_cons_of_mem _ h)
  have hown : s.vm.findClass "PlanRows$Search" = some m.cls := findClass_of_methodNamed B.named
  have hlocks := B.notSynchronized
  have hl := lv_entry ([.ref (ad 4), .int a1]) (n := 4) (Nat.le_of_ble_eq_true rfl)
  rw [lg_entry_eq]
  generalize (lg_sl ([.ref (ad 4), .int a1]) ++ List.replicate (4 - (lg_sl ([.ref (ad 4), .int a1])).length) Slot.unset).toArray = ls at hl ⊢
  have hl : lv_has ls 4 [(0, .ref (ad 4)), (1, .int a1)] := hl
  refine lv_iload_n hx hb d_Search_unreachedAt_0 rfl (lv_at hl 1 rfl) ?_
  refine lv_istore_n (lv' := [(2, .int a1), (0, .ref (ad 4)), (1, .int a1)]) hx hb d_Search_unreachedAt_1 rfl hl (by decide) rfl (fun ls hl => ?_)
  refine lv_iconst (v := 0) hx hb d_Search_unreachedAt_2 (by decide) ?_
  refine lv_istore_n (lv' := [(3, .int 0), (2, .int a1), (0, .ref (ad 4)), (1, .int a1)]) hx hb d_Search_unreachedAt_3 rfl hl (by decide) rfl (fun ls hl => ?_)
  have loop : ∀ (k : Nat) (lft i : Int32) (ls : Array Slot), 0 ≤ i.toInt ∧ i.toInt ≤ (q_rn x).toInt ∧ (q_rn x).toInt - i.toInt < ((k : Nat) : Int) → f_Search_unreachedAt x a1 = L_Search_unreachedAt x a1 k lft i → lv_has ls 4 [(3, .int i), (2, .int lft), (0, .ref (ad 4)), (1, .int a1)] → W p l e { frames := 2, cells := 0, slots := 0, locals := 42 } s m ([.ref (ad 4), .int a1]).toArray below meth c s.heap [] 0 0 (MQX below (PQ (some (.int (f_Search_unreachedAt x a1)))) ([.ref (ad 4), .int a1]).toArray s 0 0 (fun _ => False)) (F0 m 4 ls []) := by
    intro k
    induction k with
    | zero =>
      intro lft i ls hi hq hl
      obtain ⟨h1, h2, h3⟩ := hi
      omega
    | succ k ih =>
      intro lft i ls hi hq hl
      have hq := hq.trans (L_Search_unreachedAt_s x a1 k lft i)
      refine lv_iload_n hx hb d_Search_unreachedAt_4 rfl (lv_at hl 0 rfl) ?_
      refine lv_aload_n hx hb d_Search_unreachedAt_5 rfl (lv_at hl 2 rfl) ?_
      refine va_get (D := (dC, dI)) (ci := 6) (v := .ref (ad 1)) (C := R_Search) (T := F_Search) (N := 4) hx hb hbw in_Search hown hK hP 4 rfl rfl 0 (by decide) (hbw _ w_95) (fun _ h9 => h9) rfl d_Search_unreachedAt_6 ?_
      refine va_getN (D := (dC, dI)) (ci := 4) (v := .int (q_rn x)) (C := R_Rooms) (T := F_Rooms) (N := 4) hx hb hbw in_Rooms hown hK hP 1 rfl rfl 3 (by decide) (va_Nw.use rfl (hN _ nw_1)) (fun _ h9 => h9) rfl d_Search_unreachedAt_9 ?_
      refine lv_icmp_ge (tgt := 38) hx hb d_Search_unreachedAt_12 (by decide) (fun c_1 => ?_) (fun c_1 => ?_)
      · refine lv_iconst (v := (-1)) hx hb d_Search_unreachedAt_38 (by decide) ?_
        exact W.toX (W.iret (v := (-1)) hx hb hr (fun t ht hW => ⟨by rw [show f_Search_unreachedAt x a1 = (-1) from by rw [hq, if_pos c_1]], ht⟩) (fun q hq => by cases hq) d_Search_unreachedAt_39)
      · refine lv_aload_n hx hb d_Search_unreachedAt_15 rfl (lv_at hl 2 rfl) ?_
        refine lv_iload_n hx hb d_Search_unreachedAt_16 rfl (lv_at hl 0 rfl) ?_
        refine xv (As := [.int i]) (rest := []) (C := "PlanRows$Search") ⟨hx, hb, hml, hown, hts⟩ (c_Search_isReached l dC dI cI cZ ad x hI i) (cw_Search_74 hts rfl rfl ⟨Nat.le_of_ble_eq_true rfl, Nat.le_of_ble_eq_true rfl⟩) hK hN hP 4 rfl rfl rfl rfl hl.1 rfl (Nat.le_of_ble_eq_true rfl) d_Search_unreachedAt_17 ⟨Nat.zero_le _, Nat.zero_le _⟩ ?_
        refine lv_if_ne (tgt := 32) hx hb d_Search_unreachedAt_20 (by decide) (fun c_2 => ?_) (fun c_2 => ?_)
        · refine lv_iinc (v := i + 1) (lv' := [(3, .int (i + 1)), (2, .int lft), (0, .ref (ad 4)), (1, .int a1)]) hx hb d_Search_unreachedAt_32 hl (k := 0) rfl rfl (by decide) rfl (fun ls hl => ?_)
          refine lv_goto (tgt := 4) hx hb d_Search_unreachedAt_35 (by decide) ?_
          exact ih lft (i + 1) ls (lp_inc hi c_1 hI.1.2 (by decide)) (by rw [hq, if_neg c_1, if_neg c_2]) (lv_sub hl [0, 1, 2, 3] rfl)
        · refine lv_iload_n hx hb d_Search_unreachedAt_23 rfl (lv_at hl 1 rfl) ?_
          refine lv_if_ne (tgt := 29) hx hb d_Search_unreachedAt_24 (by decide) (fun c_3 => ?_) (fun c_3 => ?_)
          · refine lv_iinc (v := lft + (-1)) (lv' := [(2, .int (lft + (-1))), (3, .int i), (0, .ref (ad 4)), (1, .int a1)]) hx hb d_Search_unreachedAt_29 hl (k := 1) rfl rfl (by decide) rfl (fun ls hl => ?_)
            refine lv_iinc (v := i + 1) (lv' := [(3, .int (i + 1)), (2, .int (lft + (-1))), (0, .ref (ad 4)), (1, .int a1)]) hx hb d_Search_unreachedAt_32 hl (k := 1) rfl rfl (by decide) rfl (fun ls hl => ?_)
            refine lv_goto (tgt := 4) hx hb d_Search_unreachedAt_35 (by decide) ?_
            exact ih (lft + (-1)) (i + 1) ls (lp_inc hi c_1 hI.1.2 (by decide)) (by rw [hq, if_neg c_1, if_pos c_2, if_neg c_3]) (lv_sub hl [0, 1, 2, 3] rfl)
          · refine lv_iload_n hx hb d_Search_unreachedAt_27 rfl (lv_at hl 0 rfl) ?_
            exact W.toX (W.iret (v := i) hx hb hr (fun t ht hW => ⟨by rw [show f_Search_unreachedAt x a1 = i from by rw [hq, if_neg c_1, if_pos c_2, if_pos c_3]], ht⟩) (fun q hq => by cases hq) d_Search_unreachedAt_28)
  exact loop 41 a1 0 ls (lp_0 (N := 40) hI.1 (by decide)) (rfl) (lv_sub hl [0, 1, 2, 3] rfl)
def L_Search_lowestDoorInto (x : ST) (a1 : Int32) : Nat → Int32 → Int32
  | 0, _ => 0
  | k + 1, i => if (q_dn x) ≤ i then (-1) else (if (f_Search_isPassed x i) = 0 then L_Search_lowestDoorInto x a1 k (i + 1) else (if (f_Search_isReached x (f_Doors_roomBehind x i a1)) = 0 then L_Search_lowestDoorInto x a1 k (i + 1) else (if (((q_co x) (f_Doors_roomBehind x i a1).toNatClampNeg) + (f_Doors_costOf x i)) = ((q_co x) a1.toNatClampNeg) then i else L_Search_lowestDoorInto x a1 k (i + 1))))
theorem L_Search_lowestDoorInto_s (x : ST) (a1 : Int32) (k : Nat) (i : Int32) : L_Search_lowestDoorInto x a1 (k + 1) i = if (q_dn x) ≤ i then (-1) else (if (f_Search_isPassed x i) = 0 then L_Search_lowestDoorInto x a1 k (i + 1) else (if (f_Search_isReached x (f_Doors_roomBehind x i a1)) = 0 then L_Search_lowestDoorInto x a1 k (i + 1) else (if (((q_co x) (f_Doors_roomBehind x i a1).toNatClampNeg) + (f_Doors_costOf x i)) = ((q_co x) a1.toNatClampNeg) then i else L_Search_lowestDoorInto x a1 k (i + 1)))) := rfl
def f_Search_lowestDoorInto (x : ST) (a1 : Int32) : Int32 := if (f_Search_isReached x a1) = 0 then (-1) else L_Search_lowestDoorInto x a1 81 0
set_option maxHeartbeats 4000000 in
set_option maxRecDepth 100000 in
theorem c_Search_lowestDoorInto (l : Launch) (dC : Nat → ClassId) (dI : Nat → Nat → Nat) (cI cZ : ClassId) (ad : Nat → Nat) (x : ST) (hI : CIn x) (a1 : Int32) : MX l y_Search_lowestDoorInto (Cond.code y_Search_lowestDoorInto b_Search_lowestDoorInto 4 (some .int) :: BW) { frames := 3, cells := 0, slots := 0, locals := 64 } (PC (dC, dI) [(cI, .int), (cZ, .boolean)] (wC cI cZ ad x) [.ref (ad 4), .int a1]) (PQ (some (.int (f_Search_lowestDoorInto x a1)))) 0 0 (fun _ => False) := by
  refine MX.ofW (cc := b_Search_lowestDoorInto) (maxL := 4) (ret := (some .int)) (by decide) rfl ?_
  intro p e s m args below meth c s₁ B hml hex hv
  obtain ⟨rfl, hP, hK, hN⟩ := hv
  have hx := B.exec
  have hb := B.bytes
  have hr := B.returns
  have hts := atoms_spec (ws := Cond.code y_Search_lowestDoorInto b_Search_lowestDoorInto 4 (some .int) :: BW) B.pre
  have hbw : ∀ w ∈ BW, w.before ([.ref (ad 4), .int a1]).toArray s = true := fun w h => hts w (List.mem_cons_of_mem _ h)
  have hown : s.vm.findClass "PlanRows$Search" = some m.cls := findClass_of_methodNamed B.named
  have hlocks := B.notSynchronized
  have hl := lv_entry ([.ref (ad 4), .int a1]) (n := 4) (Nat.le_of_ble_eq_true rfl)
  rw [lg_entry_eq]
  generalize (lg_sl ([.ref (ad 4), .int a1]) ++ List.replicate (4 - (lg_sl ([.ref (ad 4), .int a1])).length) Slot.unset).toArray = ls at hl ⊢
  have hl : lv_has ls 4 [(0, .ref (ad 4)), (1, .int a1)] := hl
  refine lv_aload_n hx hb d_Search_lowestDoorInto_0 rfl (lv_at hl 0 rfl) ?_
  refine lv_iload_n hx hb d_Search_lowestDoorInto_1 rfl (lv_at hl 1 rfl) ?_
  refine xv (As := [.int a1]) (rest := []) (C := "PlanRows$Search") ⟨hx, hb, hml, hown, hts⟩ (c_Search_isReached l dC dI cI cZ ad x hI a1) (cw_Search_74 hts rfl rfl ⟨Nat.le_of_ble_eq_true rfl, Nat.le_of_ble_eq_true rfl⟩) hK hN hP 4 rfl rfl rfl rfl hl.1 rfl (Nat.le_of_ble_eq_true rfl) d_Search_lowestDoorInto_2 ⟨Nat.zero_le _, Nat.zero_le _⟩ ?_
  refine lv_if_ne (tgt := 10) hx hb d_Search_lowestDoorInto_5 (by decide) (fun c_1 => ?_) (fun c_1 => ?_)
  · refine lv_iconst (v := 0) hx hb d_Search_lowestDoorInto_10 (by decide) ?_
    refine lv_istore_n (lv' := [(2, .int 0), (0, .ref (ad 4)), (1, .int a1)]) hx hb d_Search_lowestDoorInto_11 rfl hl (by decide) rfl (fun ls hl => ?_)
    have loop : ∀ (k : Nat) (i : Int32) (ls : Array Slot), 0 ≤ i.toInt ∧ i.toInt ≤ (q_dn x).toInt ∧ (q_dn x).toInt - i.toInt < ((k : Nat) : Int) → f_Search_lowestDoorInto x a1 = L_Search_lowestDoorInto x a1 k i → lv_has ls 4 [(2, .int i), (0, .ref (ad 4)), (1, .int a1)] → W p l e { frames := 3, cells := 0, slots := 0, locals := 64 } s m ([.ref (ad 4), .int a1]).toArray below meth c s.heap [] 0 0 (MQX below (PQ (some (.int (f_Search_lowestDoorInto x a1)))) ([.ref (ad 4), .int a1]).toArray s 0 0 (fun _ => False)) (F0 m 12 ls []) := by
      intro k
      induction k with
      | zero =>
        intro i ls hi hq hl
        obtain ⟨h1, h2, h3⟩ := hi
        omega
      | succ k ih =>
        intro i ls hi hq hl
        have hq := hq.trans (L_Search_lowestDoorInto_s x a1 k i)
        refine lv_iload_n hx hb d_Search_lowestDoorInto_12 rfl (lv_at hl 0 rfl) ?_
        refine lv_aload_n hx hb d_Search_lowestDoorInto_13 rfl (lv_at hl 1 rfl) ?_
        refine va_get (D := (dC, dI)) (ci := 6) (v := .ref (ad 2)) (C := R_Search) (T := F_Search) (N := 4) hx hb hbw in_Search hown hK hP 4 rfl rfl 1 (by decide) (hbw _ w_96) (fun _ h9 => h9) rfl d_Search_lowestDoorInto_14 ?_
        refine va_getN (D := (dC, dI)) (ci := 2) (v := .int (q_dn x)) (C := R_Doors) (T := F_Doors) (N := 5) hx hb hbw in_Doors hown hK hP 2 rfl rfl 4 (by decide) (va_Nw.use rfl (hN _ nw_4)) (fun _ h9 => h9) rfl d_Search_lowestDoorInto_17 ?_
        refine lv_icmp_ge (tgt := 81) hx hb d_Search_lowestDoorInto_20 (by decide) (fun c_2 => ?_) (fun c_2 => ?_)
        · refine lv_iconst (v := (-1)) hx hb d_Search_lowestDoorInto_81 (by decide) ?_
          exact W.toX (W.iret (v := (-1)) hx hb hr (fun t ht hW => ⟨by rw [show f_Search_lowestDoorInto x a1 = (-1) from by rw [hq, if_pos c_2]], ht⟩) (fun q hq => by cases hq) d_Search_lowestDoorInto_82)
        · refine lv_aload_n hx hb d_Search_lowestDoorInto_23 rfl (lv_at hl 1 rfl) ?_
          refine va_get (D := (dC, dI)) (ci := 6) (v := .ref (ad 2)) (C := R_Search) (T := F_Search) (N := 4) hx hb hbw in_Search hown hK hP 4 rfl rfl 1 (by decide) (hbw _ w_96) (fun _ h9 => h9) rfl d_Search_lowestDoorInto_24 ?_
          refine lv_iload_n hx hb d_Search_lowestDoorInto_27 rfl (lv_at hl 0 rfl) ?_
          refine lv_iload_n hx hb d_Search_lowestDoorInto_28 rfl (lv_at hl 2 rfl) ?_
          refine xv (As := [.int i, .int a1]) (rest := []) (C := "PlanRows$Doors") ⟨hx, hb, hml, hown, hts⟩ (c_Doors_roomBehind l dC dI cI cZ ad x hI i a1) (cw_Search_104 hts rfl rfl ⟨Nat.le_of_ble_eq_true rfl, Nat.le_of_ble_eq_true rfl⟩) hK hN hP 2 rfl rfl rfl rfl hl.1 rfl (Nat.le_of_ble_eq_true rfl) d_Search_lowestDoorInto_29 ⟨Nat.zero_le _, Nat.zero_le _⟩ ?_
          refine lv_istore_n (lv' := [(3, .int (f_Doors_roomBehind x i a1)), (2, .int i), (0, .ref (ad 4)), (1, .int a1)]) hx hb d_Search_lowestDoorInto_32 rfl hl (by decide) rfl (fun ls hl => ?_)
          refine lv_aload_n hx hb d_Search_lowestDoorInto_33 rfl (lv_at hl 2 rfl) ?_
          refine lv_iload_n hx hb d_Search_lowestDoorInto_34 rfl (lv_at hl 1 rfl) ?_
          refine xv (As := [.int i]) (rest := []) (C := "PlanRows$Search") ⟨hx, hb, hml, hown, hts⟩ (c_Search_isPassed l dC dI cI cZ ad x hI i) (cw_Search_57 hts rfl rfl ⟨Nat.le_of_ble_eq_true rfl, Nat.le_of_ble_eq_true rfl⟩) hK hN hP 4 rfl rfl rfl rfl hl.1 rfl (Nat.le_of_ble_eq_true rfl) d_Search_lowestDoorInto_35 ⟨Nat.zero_le _, Nat.zero_le _⟩ ?_
          refine lv_if_eq (tgt := 75) hx hb d_Search_lowestDoorInto_38 (by decide) (fun c_3 => ?_) (fun c_3 => ?_)
          · refine lv_iinc (v := i + 1) (lv' := [(2, .int (i + 1)), (3, .int (f_Doors_roomBehind x i a1)), (0, .ref (ad 4)), (1, .int a1)]) hx hb d_Search_lowestDoorInto_75 hl (k := 1) rfl rfl (by decide) rfl (fun ls hl => ?_)
            refine lv_goto (tgt := 12) hx hb d_Search_lowestDoorInto_78 (by decide) ?_
            exact ih (i + 1) ls (lp_inc hi c_2 hI.2.1.2 (by decide)) (by rw [hq, if_neg c_2, if_pos c_3]) (lv_sub hl [0, 2, 3] rfl)
          · refine lv_aload_n hx hb d_Search_lowestDoorInto_41 rfl (lv_at hl 2 rfl) ?_
            refine lv_iload_n hx hb d_Search_lowestDoorInto_42 rfl (lv_at hl 0 rfl) ?_
            refine xv (As := [.int (f_Doors_roomBehind x i a1)]) (rest := []) (C := "PlanRows$Search") ⟨hx, hb, hml, hown, hts⟩ (c_Search_isReached l dC dI cI cZ ad x hI (f_Doors_roomBehind x i a1)) (cw_Search_74 hts rfl rfl ⟨Nat.le_of_ble_eq_true rfl, Nat.le_of_ble_eq_true rfl⟩) hK hN hP 4 rfl rfl rfl rfl hl.1 rfl (Nat.le_of_ble_eq_true rfl) d_Search_lowestDoorInto_43 ⟨Nat.zero_le _, Nat.zero_le _⟩ ?_
            refine lv_if_eq (tgt := 75) hx hb d_Search_lowestDoorInto_46 (by decide) (fun c_4 => ?_) (fun c_4 => ?_)
            · refine lv_iinc (v := i + 1) (lv' := [(2, .int (i + 1)), (3, .int (f_Doors_roomBehind x i a1)), (0, .ref (ad 4)), (1, .int a1)]) hx hb d_Search_lowestDoorInto_75 hl (k := 1) rfl rfl (by decide) rfl (fun ls hl => ?_)
              refine lv_goto (tgt := 12) hx hb d_Search_lowestDoorInto_78 (by decide) ?_
              exact ih (i + 1) ls (lp_inc hi c_2 hI.2.1.2 (by decide)) (by rw [hq, if_neg c_2, if_neg c_3, if_pos c_4]) (lv_sub hl [0, 2, 3] rfl)
            · refine lv_aload_n hx hb d_Search_lowestDoorInto_49 rfl (lv_at hl 2 rfl) ?_
              refine va_get (D := (dC, dI)) (ci := 6) (v := .ref (ad 17)) (C := R_Search) (T := F_Search) (N := 4) hx hb hbw in_Search hown hK hP 4 rfl rfl 3 (by decide) (hbw _ w_98) (fun _ h9 => h9) rfl d_Search_lowestDoorInto_50 ?_
              refine lv_iload_n hx hb d_Search_lowestDoorInto_53 rfl (lv_at hl 0 rfl) ?_
              refine va_iald hx hb hK hP 17 0 rfl rfl (ix_reached hI c_4) d_Search_lowestDoorInto_54 ?_
              refine lv_aload_n hx hb d_Search_lowestDoorInto_55 rfl (lv_at hl 2 rfl) ?_
              refine va_get (D := (dC, dI)) (ci := 6) (v := .ref (ad 2)) (C := R_Search) (T := F_Search) (N := 4) hx hb hbw in_Search hown hK hP 4 rfl rfl 1 (by decide) (hbw _ w_96) (fun _ h9 => h9) rfl d_Search_lowestDoorInto_56 ?_
              refine lv_iload_n hx hb d_Search_lowestDoorInto_59 rfl (lv_at hl 1 rfl) ?_
              refine xv (As := [.int i]) (rest := [.int ((q_co x) (f_Doors_roomBehind x i a1).toNatClampNeg)]) (C := "PlanRows$Doors") ⟨hx, hb, hml, hown, hts⟩ (c_Doors_costOf l dC dI cI cZ ad x hI i) (cw_Search_67 hts rfl rfl ⟨Nat.le_of_ble_eq_true rfl, Nat.le_of_ble_eq_true rfl⟩) hK hN hP 2 rfl rfl rfl rfl hl.1 rfl (Nat.le_of_ble_eq_true rfl) d_Search_lowestDoorInto_60 ⟨Nat.zero_le _, Nat.zero_le _⟩ ?_
              refine lv_iadd hx hb d_Search_lowestDoorInto_63 ?_
              refine lv_aload_n hx hb d_Search_lowestDoorInto_64 rfl (lv_at hl 2 rfl) ?_
              refine va_get (D := (dC, dI)) (ci := 6) (v := .ref (ad 17)) (C := R_Search) (T := F_Search) (N := 4) hx hb hbw in_Search hown hK hP 4 rfl rfl 3 (by decide) (hbw _ w_98) (fun _ h9 => h9) rfl d_Search_lowestDoorInto_65 ?_
              refine lv_iload_n hx hb d_Search_lowestDoorInto_68 rfl (lv_at hl 3 rfl) ?_
              refine va_iald hx hb hK hP 17 0 rfl rfl (ix_reached hI c_1) d_Search_lowestDoorInto_69 ?_
              refine lv_icmp_ne (tgt := 75) hx hb d_Search_lowestDoorInto_70 (by decide) (fun c_5 => ?_) (fun c_5 => ?_)
              · refine lv_iinc (v := i + 1) (lv' := [(2, .int (i + 1)), (3, .int (f_Doors_roomBehind x i a1)), (0, .ref (ad 4)), (1, .int a1)]) hx hb d_Search_lowestDoorInto_75 hl (k := 1) rfl rfl (by decide) rfl (fun ls hl => ?_)
                refine lv_goto (tgt := 12) hx hb d_Search_lowestDoorInto_78 (by decide) ?_
                exact ih (i + 1) ls (lp_inc hi c_2 hI.2.1.2 (by decide)) (by rw [hq, if_neg c_2, if_neg c_3, if_neg c_4, if_neg c_5]) (lv_sub hl [0, 2, 3] rfl)
              · refine lv_iload_n hx hb d_Search_lowestDoorInto_73 rfl (lv_at hl 1 rfl) ?_
                exact W.toX (W.iret (v := i) hx hb hr (fun t ht hW => ⟨by rw [show f_Search_lowestDoorInto x a1 = i from by rw [hq, if_neg c_2, if_neg c_3, if_neg c_4, if_pos c_5]], ht⟩) (fun q hq => by cases hq) d_Search_lowestDoorInto_74)
    exact loop 81 0 ls (lp_0 (N := 80) hI.2.1 (by decide)) (by unfold f_Search_lowestDoorInto; rw [if_neg c_1]) (lv_sub hl [0, 1, 2] rfl)
  · refine lv_iconst (v := (-1)) hx hb d_Search_lowestDoorInto_8 (by decide) ?_
    exact W.toX (W.iret (v := (-1)) hx hb hr (fun t ht hW => ⟨by rw [show f_Search_lowestDoorInto x a1 = (-1) from by unfold f_Search_lowestDoorInto; rw [if_pos c_1]], ht⟩) (fun q hq => by cases hq) d_Search_lowestDoorInto_9)
