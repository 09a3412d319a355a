theorem ix_win {x : ST} {a : Int32} (hI : CIn x) (h : ¬ f_Win_has x a = 0) : vp_in a 30 := by
  unfold f_Win_has at h
  by_cases h0 : a < 0
  · exact absurd (if_pos h0) h
  · rw [if_neg h0] at h
    by_cases h1 : q_wc x ≤ a
    · exact absurd (if_pos h1) h
    · exact ix_lt h0 h1 hI.2.2.2.2.1.2
theorem lp_bit {b : Int32} {k : Nat} (hi : 1 ≤ k + 1 ∧ 0 ≤ b.toInt ∧ b.toInt < ((2 ^ (k + 1 - 1) : Nat) : Int)) (hc : ¬ b ≤ 0) : 1 ≤ k ∧ 0 ≤ (b >>> ((1 : Int32) &&& 31)).toInt ∧ (b >>> ((1 : Int32) &&& 31)).toInt < ((2 ^ (k - 1) : Nat) : Int) := by
  have e : (b >>> ((1 : Int32) &&& 31)).toInt = b.toInt >>> 1 := pk_shr b _ 1 (by decide)
  have e2 : b.toInt >>> 1 = b.toInt / 2 := by rw [Int.shiftRight_eq_div_pow]; rfl
  rw [Int32.le_iff_toInt_le] at hc
  have h0 : (0 : Int32).toInt = 0 := rfl
  obtain ⟨-, h1, h2⟩ := hi
  rw [e, e2]
  cases k with
  | zero =>
    have h3 : ((2 ^ (0 + 1 - 1) : Nat) : Int) = 1 := rfl
    omega
  | succ j =>
    have e3 : (2 ^ (j + 1 + 1 - 1) : Nat) = 2 * 2 ^ j := by rw [show j + 1 + 1 - 1 = j + 1 from rfl, Nat.pow_succ]; omega
    rw [e3] at h2
    show 1 ≤ j + 1 ∧ 0 ≤ b.toInt / 2 ∧ b.toInt / 2 < ((2 ^ j : Nat) : Int)
    generalize 2 ^ j = P at h2 ⊢
    omega
def f_Win_isReached (x : ST) (a1 a2 a3 a4 a5 : Int32) : Int32 := if (f_Win_has x a1) = 0 then 0 else (if a4 ≤ ((q_wz x) a1.toNatClampNeg) then (if 0 < (lg_cmp (((((((q_wx x) a1.toNatClampNeg) - a2).toInt64) * ((((q_wx x) a1.toNatClampNeg) - a2).toInt64)) + (((((q_wy x) a1.toNatClampNeg) - a3).toInt64) * ((((q_wy x) a1.toNatClampNeg) - a3).toInt64))) + (((((q_wz x) a1.toNatClampNeg) - a4).toInt64) * ((((q_wz x) a1.toNatClampNeg) - a4).toInt64))) (a5.toInt64 * a5.toInt64)) then 0 else 1) else 0)
set_option maxHeartbeats 4000000 in
set_option maxRecDepth 100000 in
theorem c_Win_isReached (l : Launch) (dC : Nat → ClassId) (dI : Nat → Nat → Nat) (cI cZ : ClassId) (ad : Nat → Nat) (x : ST) (hI : CIn x) (a1 a2 a3 a4 a5 : Int32) : MX l y_Win_isReached (Cond.code y_Win_isReached b_Win_isReached 12 (some .boolean) :: BW) { frames := 1, cells := 0, slots := 0, locals := 21 } (PC (dC, dI) [(cI, .int), (cZ, .boolean)] (wC cI cZ ad x) [.ref (ad 8), .int a1, .int a2, .int a3, .int a4, .int a5]) (PQ (some (.int (f_Win_isReached x a1 a2 a3 a4 a5)))) 0 0 (fun _ => False) := by
  refine MX.ofW (cc := b_Win_isReached) (maxL := 12) (ret := (some .boolean)) (by decide) rfl ?_
  intro p e s m args below meth c s₁ B hml hex hv
  obtain ⟨rfl, hP, hK, hN⟩ := hv
  have hx := B.exec
  have hb := B.bytes
  have hr := B.returns
  have hts := atoms_spec (ws := Cond.code y_Win_isReached b_Win_isReached 12 (some .boolean) :: BW) B.pre
  have hbw : ∀ w ∈ BW, w.before ([.ref (ad 8), .int a1, .int a2, .int a3, .int a4, .int a5]).toArray s = true := fun w h => hts w (List.mem_cons_of_mem _ h)
  have hown : s.vm.findClass "PlanRows$Windows" = some m.cls := findClass_of_methodNamed B.named
  have hlocks := B.notSynchronized
  have hl := lv_entry ([.ref (ad 8), .int a1, .int a2, .int a3, .int a4, .int a5]) (n := 12) (Nat.le_of_ble_eq_true rfl)
  rw [lg_entry_eq]
  generalize (lg_sl ([.ref (ad 8), .int a1, .int a2, .int a3, .int a4, .int a5]) ++ List.replicate (12 - (lg_sl ([.ref (ad 8), .int a1, .int a2, .int a3, .int a4, .int a5])).length) Slot.unset).toArray = ls at hl ⊢
  have hl : lv_has ls 12 [(0, .ref (ad 8)), (1, .int a1), (2, .int a2), (3, .int a3), (4, .int a4), (5, .int a5)] := hl
  refine lv_aload_n hx hb d_Win_isReached_0 rfl (lv_at hl 0 rfl) ?_
  refine lv_iload_n hx hb d_Win_isReached_1 rfl (lv_at hl 1 rfl) ?_
  refine xv (As := [.int a1]) (rest := []) (C := "PlanRows$Windows") ⟨hx, hb, hml, hown, hts⟩ (c_Win_has l dC dI cI cZ ad x hI a1) (cw_Win_25 hts rfl rfl ⟨Nat.le_of_ble_eq_true rfl, Nat.le_of_ble_eq_true rfl⟩) hK hN hP 8 rfl rfl rfl rfl hl.1 rfl (Nat.le_of_ble_eq_true rfl) d_Win_isReached_2 ⟨Nat.zero_le _, Nat.zero_le _⟩ ?_
  refine lv_if_eq (tgt := 19) hx hb d_Win_isReached_5 (by decide) (fun c_1 => ?_) (fun c_1 => ?_)
  · refine lv_iconst (v := 0) hx hb d_Win_isReached_19 (by decide) ?_
    exact W.toX (W.zret (v := 0) (ty := .boolean) hx hb hr (by rfl) (fun t ht hW => ⟨by rw [show f_Win_isReached x a1 a2 a3 a4 a5 = 0 from by unfold f_Win_isReached; rw [if_pos c_1]], ht⟩) (fun q hq => by cases hq) d_Win_isReached_20)
  · refine lv_aload_n hx hb d_Win_isReached_8 rfl (lv_at hl 0 rfl) ?_
    refine va_get (D := (dC, dI)) (ci := 7) (v := .ref (ad 28)) (C := R_Win) (T := F_Win) (N := 4) hx hb hbw in_Win hown hK hP 8 rfl rfl 2 (by decide) (hbw _ w_180) (fun _ h9 => h9) rfl d_Win_isReached_9 ?_
    refine lv_iload_n hx hb d_Win_isReached_12 rfl (lv_at hl 1 rfl) ?_
    refine va_iald hx hb hK hP 28 0 rfl rfl (ix_win hI c_1) d_Win_isReached_13 ?_
    refine lv_iload hx hb d_Win_isReached_14 (lv_at hl 4 rfl) ?_
    refine lv_icmp_ge (tgt := 21) hx hb d_Win_isReached_16 (by decide) (fun c_2 => ?_) (fun c_2 => ?_)
    · refine lv_aload_n hx hb d_Win_isReached_21 rfl (lv_at hl 0 rfl) ?_
      refine va_get (D := (dC, dI)) (ci := 7) (v := .ref (ad 26)) (C := R_Win) (T := F_Win) (N := 4) hx hb hbw in_Win hown hK hP 8 rfl rfl 0 (by decide) (hbw _ w_178) (fun _ h9 => h9) rfl d_Win_isReached_22 ?_
      refine lv_iload_n hx hb d_Win_isReached_25 rfl (lv_at hl 1 rfl) ?_
      refine va_iald hx hb hK hP 26 0 rfl rfl (ix_win hI c_1) d_Win_isReached_26 ?_
      refine lv_iload_n hx hb d_Win_isReached_27 rfl (lv_at hl 2 rfl) ?_
      refine lv_isub hx hb d_Win_isReached_28 ?_
      refine lv_i2l hx hb d_Win_isReached_29 rfl ?_
      refine lv_lstore (lv' := [(6, .long ((((q_wx x) a1.toNatClampNeg) - a2).toInt64)), (0, .ref (ad 8)), (1, .int a1), (2, .int a2), (3, .int a3), (4, .int a4), (5, .int a5)]) hx hb d_Win_isReached_30 hl (by decide) rfl (fun ls hl => ?_)
      refine lv_aload_n hx hb d_Win_isReached_32 rfl (lv_at hl 1 rfl) ?_
      refine va_get (D := (dC, dI)) (ci := 7) (v := .ref (ad 27)) (C := R_Win) (T := F_Win) (N := 4) hx hb hbw in_Win hown hK hP 8 rfl rfl 1 (by decide) (hbw _ w_179) (fun _ h9 => h9) rfl d_Win_isReached_33 ?_
      refine lv_iload_n hx hb d_Win_isReached_36 rfl (lv_at hl 2 rfl) ?_
      refine va_iald hx hb hK hP 27 0 rfl rfl (ix_win hI c_1) d_Win_isReached_37 ?_
      refine lv_iload_n hx hb d_Win_isReached_38 rfl (lv_at hl 4 rfl) ?_
      refine lv_isub hx hb d_Win_isReached_39 ?_
      refine lv_i2l hx hb d_Win_isReached_40 rfl ?_
      refine lv_lstore (lv' := [(8, .long ((((q_wy x) a1.toNatClampNeg) - a3).toInt64)), (6, .long ((((q_wx x) a1.toNatClampNeg) - a2).toInt64)), (0, .ref (ad 8)), (1, .int a1), (2, .int a2), (3, .int a3), (4, .int a4), (5, .int a5)]) hx hb d_Win_isReached_41 hl (by decide) rfl (fun ls hl => ?_)
      refine lv_aload_n hx hb d_Win_isReached_43 rfl (lv_at hl 2 rfl) ?_
      refine va_get (D := (dC, dI)) (ci := 7) (v := .ref (ad 28)) (C := R_Win) (T := F_Win) (N := 4) hx hb hbw in_Win hown hK hP 8 rfl rfl 2 (by decide) (hbw _ w_180) (fun _ h9 => h9) rfl d_Win_isReached_44 ?_
      refine lv_iload_n hx hb d_Win_isReached_47 rfl (lv_at hl 3 rfl) ?_
      refine va_iald hx hb hK hP 28 0 rfl rfl (ix_win hI c_1) d_Win_isReached_48 ?_
      refine lv_iload hx hb d_Win_isReached_49 (lv_at hl 6 rfl) ?_
      refine lv_isub hx hb d_Win_isReached_51 ?_
      refine lv_i2l hx hb d_Win_isReached_52 rfl ?_
      refine lv_lstore (lv' := [(10, .long ((((q_wz x) a1.toNatClampNeg) - a4).toInt64)), (8, .long ((((q_wy x) a1.toNatClampNeg) - a3).toInt64)), (6, .long ((((q_wx x) a1.toNatClampNeg) - a2).toInt64)), (0, .ref (ad 8)), (1, .int a1), (2, .int a2), (3, .int a3), (4, .int a4), (5, .int a5)]) hx hb d_Win_isReached_53 hl (by decide) rfl (fun ls hl => ?_)
      refine lv_lload hx hb d_Win_isReached_55 (lv_at hl 2 rfl) ?_
      refine lv_lload hx hb d_Win_isReached_57 (lv_at hl 2 rfl) ?_
      refine lv_lmul hx hb d_Win_isReached_59 ?_
      refine lv_lload hx hb d_Win_isReached_60 (lv_at hl 1 rfl) ?_
      refine lv_lload hx hb d_Win_isReached_62 (lv_at hl 1 rfl) ?_
      refine lv_lmul hx hb d_Win_isReached_64 ?_
      refine lv_ladd hx hb d_Win_isReached_65 ?_
      refine lv_lload hx hb d_Win_isReached_66 (lv_at hl 0 rfl) ?_
      refine lv_lload hx hb d_Win_isReached_68 (lv_at hl 0 rfl) ?_
      refine lv_lmul hx hb d_Win_isReached_70 ?_
      refine lv_ladd hx hb d_Win_isReached_71 ?_
      refine lv_iload hx hb d_Win_isReached_72 (lv_at hl 8 rfl) ?_
      refine lv_i2l hx hb d_Win_isReached_74 rfl ?_
      refine lv_iload hx hb d_Win_isReached_75 (lv_at hl 8 rfl) ?_
      refine lv_i2l hx hb d_Win_isReached_77 rfl ?_
      refine lv_lmul hx hb d_Win_isReached_78 ?_
      refine W.lcmp hx hb d_Win_isReached_79 ?_
      refine lv_if_gt (tgt := 87) hx hb d_Win_isReached_80 (by decide) (fun c_3 => ?_) (fun c_3 => ?_)
      · refine lv_iconst (v := 0) hx hb d_Win_isReached_87 (by decide) ?_
        exact W.toX (W.zret (v := 0) (ty := .boolean) hx hb hr (by rfl) (fun t ht hW => ⟨by rw [show f_Win_isReached x a1 a2 a3 a4 a5 = 0 from by unfold f_Win_isReached; rw [if_neg c_1, if_pos c_2, if_pos c_3]], ht⟩) (fun q hq => by cases hq) d_Win_isReached_88)
      · refine lv_iconst (v := 1) hx hb d_Win_isReached_83 (by decide) ?_
        refine lv_goto (tgt := 88) hx hb d_Win_isReached_84 (by decide) ?_
        exact W.toX (W.zret (v := 1) (ty := .boolean) hx hb hr (by rfl) (fun t ht hW => ⟨by rw [show f_Win_isReached x a1 a2 a3 a4 a5 = 1 from by unfold f_Win_isReached; rw [if_neg c_1, if_pos c_2, if_neg c_3]], ht⟩) (fun q hq => by cases hq) d_Win_isReached_88)
    · refine lv_iconst (v := 0) hx hb d_Win_isReached_19 (by decide) ?_
      exact W.toX (W.zret (v := 0) (ty := .boolean) hx hb hr (by rfl) (fun t ht hW => ⟨by rw [show f_Win_isReached x a1 a2 a3 a4 a5 = 0 from by unfold f_Win_isReached; rw [if_neg c_1, if_neg c_2]], ht⟩) (fun q hq => by cases hq) d_Win_isReached_20)
def L_Win_leastLength (x : ST) (a1 a2 a3 a4 : Int32) : Nat → Int32 → Int32 → Int32
  | 0, _, _ => 0
  | k + 1, sh, bt => if bt ≤ 0 then sh + 1 else (if (f_Win_isReached x a1 a2 a3 a4 (sh + bt)) = 0 then L_Win_leastLength x a1 a2 a3 a4 k (sh + bt) (bt >>> (1 &&& 31)) else L_Win_leastLength x a1 a2 a3 a4 k sh (bt >>> (1 &&& 31)))
theorem L_Win_leastLength_s (x : ST) (a1 a2 a3 a4 : Int32) (k : Nat) (sh bt : Int32) : L_Win_leastLength x a1 a2 a3 a4 (k + 1) sh bt = if bt ≤ 0 then sh + 1 else (if (f_Win_isReached x a1 a2 a3 a4 (sh + bt)) = 0 then L_Win_leastLength x a1 a2 a3 a4 k (sh + bt) (bt >>> (1 &&& 31)) else L_Win_leastLength x a1 a2 a3 a4 k sh (bt >>> (1 &&& 31))) := rfl
def f_Win_leastLength (x : ST) (a1 a2 a3 a4 : Int32) : Int32 := if (f_Win_isReached x a1 a2 a3 a4 200000) = 0 then (-1) else L_Win_leastLength x a1 a2 a3 a4 19 0 131072
set_option maxHeartbeats 4000000 in
set_option maxRecDepth 100000 in
theorem c_Win_leastLength (l : Launch) (dC : Nat → ClassId) (dI : Nat → Nat → Nat) (cI cZ : ClassId) (ad : Nat → Nat) (x : ST) (hI : CIn x) (a1 a2 a3 a4 : Int32) : MX l y_Win_leastLength (Cond.code y_Win_leastLength b_Win_leastLength 7 (some .int) :: BW) { frames := 2, cells := 0, slots := 0, locals := 52 } (PC (dC, dI) [(cI, .int), (cZ, .boolean)] (wC cI cZ ad x) [.ref (ad 8), .int a1, .int a2, .int a3, .int a4]) (PQ (some (.int (f_Win_leastLength x a1 a2 a3 a4)))) 0 0 (fun _ => False) := by
  refine MX.ofW (cc := b_Win_leastLength) (maxL := 7) (ret := (some .int)) (by decide) rfl ?_
  intro p e s m args below meth c s₁ B hml hex hv
  obtain ⟨rfl, hP, hK, hN⟩ := hv
  have hx := B.exec
  have hb := B.bytes
  have hr := B.returns
  have hts := atoms_spec (ws := Cond.code y_Win_leastLength b_Win_leastLength 7 (some .int) :: BW) B.pre
  have hbw : ∀ w ∈ BW, w.before ([.ref (ad 8), .int a1, .int a2, .int a3, .int a4]).toArray s = true := fun w h => hts w (List.mem_cons_of_mem _ h)
  have hown : s.vm.findClass "PlanRows$Windows" = some m.cls := findClass_of_methodNamed B.named
  have hlocks := B.notSynchronized
  have hl := lv_entry ([.ref (ad 8), .int a1, .int a2, .int a3, .int a4]) (n := 7) (Nat.le_of_ble_eq_true rfl)
  rw [lg_entry_eq]
  generalize (lg_sl ([.ref (ad 8), .int a1, .int a2, .int a3, .int a4]) ++ List.replicate (7 - (lg_sl ([.ref (ad 8), .int a1, .int a2, .int a3, .int a4])).length) Slot.unset).toArray = ls at hl ⊢
  have hl : lv_has ls 7 [(0, .ref (ad 8)), (1, .int a1), (2, .int a2), (3, .int a3), (4, .int a4)] := hl
  refine lv_aload_n hx hb d_Win_leastLength_0 rfl (lv_at hl 0 rfl) ?_
  refine lv_iload_n hx hb d_Win_leastLength_1 rfl (lv_at hl 1 rfl) ?_
  refine lv_iload_n hx hb d_Win_leastLength_2 rfl (lv_at hl 2 rfl) ?_
  refine lv_iload_n hx hb d_Win_leastLength_3 rfl (lv_at hl 3 rfl) ?_
  refine lv_iload hx hb d_Win_leastLength_4 (lv_at hl 4 rfl) ?_
  refine lv_ldc (v := 200000) hx hb hown (hbw _ w_677) d_Win_leastLength_6 ?_
  refine xv (As := [.int a1, .int a2, .int a3, .int a4, .int 200000]) (rest := []) (C := "PlanRows$Windows") ⟨hx, hb, hml, hown, hts⟩ (c_Win_isReached l dC dI cI cZ ad x hI a1 a2 a3 a4 200000) (cw_Win_30 hts rfl rfl ⟨Nat.le_of_ble_eq_true rfl, Nat.le_of_ble_eq_true rfl⟩) hK hN hP 8 rfl rfl rfl rfl hl.1 rfl (Nat.le_of_ble_eq_true rfl) d_Win_leastLength_8 ⟨Nat.zero_le _, Nat.zero_le _⟩ ?_
  refine lv_if_ne (tgt := 16) hx hb d_Win_leastLength_11 (by decide) (fun c_1 => ?_) (fun c_1 => ?_)
  · refine lv_iconst (v := 0) hx hb d_Win_leastLength_16 (by decide) ?_
    refine lv_istore (lv' := [(5, .int 0), (0, .ref (ad 8)), (1, .int a1), (2, .int a2), (3, .int a3), (4, .int a4)]) hx hb d_Win_leastLength_17 hl (by decide) rfl (fun ls hl => ?_)
    refine lv_ldc (v := 131072) hx hb hown (hbw _ w_679) d_Win_leastLength_19 ?_
    refine lv_istore (lv' := [(6, .int 131072), (5, .int 0), (0, .ref (ad 8)), (1, .int a1), (2, .int a2), (3, .int a3), (4, .int a4)]) hx hb d_Win_leastLength_21 hl (by decide) rfl (fun ls hl => ?_)
    have loop : ∀ (k : Nat) (sh bt : Int32) (ls : Array Slot), 1 ≤ k ∧ 0 ≤ bt.toInt ∧ bt.toInt < ((2 ^ (k - 1) : Nat) : Int) → f_Win_leastLength x a1 a2 a3 a4 = L_Win_leastLength x a1 a2 a3 a4 k sh bt → lv_has ls 7 [(6, .int bt), (5, .int sh), (0, .ref (ad 8)), (1, .int a1), (2, .int a2), (3, .int a3), (4, .int a4)] → W p l e { frames := 2, cells := 0, slots := 0, locals := 52 } s m ([.ref (ad 8), .int a1, .int a2, .int a3, .int a4]).toArray below meth c s.heap [] 0 0 (MQX below (PQ (some (.int (f_Win_leastLength x a1 a2 a3 a4)))) ([.ref (ad 8), .int a1, .int a2, .int a3, .int a4]).toArray s 0 0 (fun _ => False)) (F0 m 23 ls []) := by
      intro k
      induction k with
      | zero =>
        intro sh bt ls hi hq hl
        exact absurd hi.1 (by decide)
      | succ k ih =>
        intro sh bt ls hi hq hl
        have hq := hq.trans (L_Win_leastLength_s x a1 a2 a3 a4 k sh bt)
        refine lv_iload hx hb d_Win_leastLength_23 (lv_at hl 0 rfl) ?_
        refine lv_if_le (tgt := 61) hx hb d_Win_leastLength_25 (by decide) (fun c_2 => ?_) (fun c_2 => ?_)
        · refine lv_iload hx hb d_Win_leastLength_61 (lv_at hl 1 rfl) ?_
          refine lv_iconst (v := 1) hx hb d_Win_leastLength_63 (by decide) ?_
          refine lv_iadd hx hb d_Win_leastLength_64 ?_
          exact W.toX (W.iret (v := sh + 1) hx hb hr (fun t ht hW => ⟨by rw [show f_Win_leastLength x a1 a2 a3 a4 = sh + 1 from by rw [hq, if_pos c_2]], ht⟩) (fun q hq => by cases hq) d_Win_leastLength_65)
        · refine lv_aload_n hx hb d_Win_leastLength_28 rfl (lv_at hl 2 rfl) ?_
          refine lv_iload_n hx hb d_Win_leastLength_29 rfl (lv_at hl 3 rfl) ?_
          refine lv_iload_n hx hb d_Win_leastLength_30 rfl (lv_at hl 4 rfl) ?_
          refine lv_iload_n hx hb d_Win_leastLength_31 rfl (lv_at hl 5 rfl) ?_
          refine lv_iload hx hb d_Win_leastLength_32 (lv_at hl 6 rfl) ?_
          refine lv_iload hx hb d_Win_leastLength_34 (lv_at hl 1 rfl) ?_
          refine lv_iload hx hb d_Win_leastLength_36 (lv_at hl 0 rfl) ?_
          refine lv_iadd hx hb d_Win_leastLength_38 ?_
          refine xv (As := [.int a1, .int a2, .int a3, .int a4, .int (sh + bt)]) (rest := []) (C := "PlanRows$Windows") ⟨hx, hb, hml, hown, hts⟩ (c_Win_isReached l dC dI cI cZ ad x hI a1 a2 a3 a4 (sh + bt)) (cw_Win_30 hts rfl rfl ⟨Nat.le_of_ble_eq_true rfl, Nat.le_of_ble_eq_true rfl⟩) hK hN hP 8 rfl rfl rfl rfl hl.1 rfl (Nat.le_of_ble_eq_true rfl) d_Win_leastLength_39 ⟨Nat.zero_le _, Nat.zero_le _⟩ ?_
          refine lv_if_ne (tgt := 52) hx hb d_Win_leastLength_42 (by decide) (fun c_3 => ?_) (fun c_3 => ?_)
          · refine lv_iload hx hb d_Win_leastLength_52 (lv_at hl 0 rfl) ?_
            refine lv_iconst (v := 1) hx hb d_Win_leastLength_54 (by decide) ?_
            refine lv_ishr hx hb d_Win_leastLength_55 ?_
            refine lv_istore (lv' := [(6, .int (bt >>> (1 &&& 31))), (5, .int sh), (0, .ref (ad 8)), (1, .int a1), (2, .int a2), (3, .int a3), (4, .int a4)]) hx hb d_Win_leastLength_56 hl (by decide) rfl (fun ls hl => ?_)
            refine lv_goto (tgt := 23) hx hb d_Win_leastLength_58 (by decide) ?_
            exact ih sh (bt >>> (1 &&& 31)) ls (lp_bit hi c_2) (by rw [hq, if_neg c_2, if_neg c_3]) (lv_sub hl [0, 1, 2, 3, 4, 5, 6] rfl)
          · refine lv_iload hx hb d_Win_leastLength_45 (lv_at hl 1 rfl) ?_
            refine lv_iload hx hb d_Win_leastLength_47 (lv_at hl 0 rfl) ?_
            refine lv_iadd hx hb d_Win_leastLength_49 ?_
            refine lv_istore (lv' := [(5, .int (sh + bt)), (6, .int bt), (0, .ref (ad 8)), (1, .int a1), (2, .int a2), (3, .int a3), (4, .int a4)]) hx hb d_Win_leastLength_50 hl (by decide) rfl (fun ls hl => ?_)
            refine lv_iload hx hb d_Win_leastLength_52 (lv_at hl 1 rfl) ?_
            refine lv_iconst (v := 1) hx hb d_Win_leastLength_54 (by decide) ?_
            refine lv_ishr hx hb d_Win_leastLength_55 ?_
            refine lv_istore (lv' := [(6, .int (bt >>> (1 &&& 31))), (5, .int (sh + bt)), (0, .ref (ad 8)), (1, .int a1), (2, .int a2), (3, .int a3), (4, .int a4)]) hx hb d_Win_leastLength_56 hl (by decide) rfl (fun ls hl => ?_)
            refine lv_goto (tgt := 23) hx hb d_Win_leastLength_58 (by decide) ?_
            exact ih (sh + bt) (bt >>> (1 &&& 31)) ls (lp_bit hi c_2) (by rw [hq, if_neg c_2, if_pos c_3]) (lv_sub hl [0, 1, 2, 3, 4, 5, 6] rfl)
    exact loop 19 0 131072 ls (by decide) (by unfold f_Win_leastLength; rw [if_neg c_1]) (lv_sub hl [0, 1, 2, 3, 4, 5, 6] rfl)
  · refine lv_iconst (v := (-1)) hx hb d_Win_leastLength_14 (by decide) ?_
    exact W.toX (W.iret (v := (-1)) hx hb hr (fun t ht hW => ⟨by rw [show f_Win_leastLength x a1 a2 a3 a4 = (-1) from by unfold f_Win_leastLength; rw [if_pos c_1]], ht⟩) (fun q hq => by cases hq) d_Win_leastLength_15)
/-- a contract's start where the world will change -/
def PCZ (sz : Nat) (D : va_G) (tys : List (ClassId × FieldType)) (ww : va_W) (av : List Value) : Array Value → State → Prop := fun v U => U.heap.size = sz ∧ PC D tys ww av v U
theorem PCZ.blind {sz : Nat} {D : va_G} {tys : List (ClassId × FieldType)} {ww : va_W} {av : List Value} : FrameBlind (PCZ sz D tys ww av) := fun a U g mk q => ⟨q.1, PC.blind a U g mk q.2⟩
theorem PCZ.at {s : State} {D : va_G} {tys : List (ClassId × FieldType)} {ww : va_W} {av : List Value} {H : Heap} (hK : va_K D clsA tys s) (hN : NW s) (hP : va_P D clsA ww H) : ∀ U : State, U.heap = H → s.WarmedH U.vm → PCZ H.size D tys ww av av.toArray U := fun U hU hW => ⟨by rw [hU], PC.at hK hN hP U hU hW⟩
def WB (D : va_G) (tys : List (ClassId × FieldType)) (ww : va_W) : State → Prop := fun t => va_P D clsA ww t.heap ∧ va_K D clsA tys t ∧ NW t
theorem ix_sz {n : Int32} {N : Nat} (h : 0 ≤ n.toInt) (hl : n.toInt < N) : vp_in n N := vp_in_iff.mpr (by omega)
theorem ix_szl {n N : Int32} {M : Nat} (h : 0 ≤ n.toInt ∧ n.toInt ≤ M) (hl : n < N) (hN : N.toInt = M) : vp_in n M := vp_in_iff.mpr (by
  rw [Int32.lt_iff_toInt_lt] at hl
  omega)
def g_Rooms_add (x : ST) (a1 a2 : Int32) : Int32 × ST := if (q_rn x) < 40 then ((q_rn (s_rn (s_kd (s_fl x (upd (q_fl x) (q_rn x).toNatClampNeg a1)) (upd (q_kd (s_fl x (upd (q_fl x) (q_rn x).toNatClampNeg a1))) (q_rn (s_fl x (upd (q_fl x) (q_rn x).toNatClampNeg a1))).toNatClampNeg a2)) ((q_rn (s_kd (s_fl x (upd (q_fl x) (q_rn x).toNatClampNeg a1)) (upd (q_kd (s_fl x (upd (q_fl x) (q_rn x).toNatClampNeg a1))) (q_rn (s_fl x (upd (q_fl x) (q_rn x).toNatClampNeg a1))).toNatClampNeg a2))) + 1))) - 1, s_rn (s_kd (s_fl x (upd (q_fl x) (q_rn x).toNatClampNeg a1)) (upd (q_kd (s_fl x (upd (q_fl x) (q_rn x).toNatClampNeg a1))) (q_rn (s_fl x (upd (q_fl x) (q_rn x).toNatClampNeg a1))).toNatClampNeg a2)) ((q_rn (s_kd (s_fl x (upd (q_fl x) (q_rn x).toNatClampNeg a1)) (upd (q_kd (s_fl x (upd (q_fl x) (q_rn x).toNatClampNeg a1))) (q_rn (s_fl x (upd (q_fl x) (q_rn x).toNatClampNeg a1))).toNatClampNeg a2))) + 1)) else ((-1), x)
set_option maxHeartbeats 4000000 in
set_option maxRecDepth 100000 in
theorem u_Rooms_add (l : Launch) (dC : Nat → ClassId) (dI : Nat → Nat → Nat) (cI cZ : ClassId) (ad : Nat → Nat) (hj : aInj 29 ad) (x : ST) (hI : CIn x) (sz : Nat) (a1 a2 : Int32) : MX l y_Rooms_add (Cond.code y_Rooms_add b_Rooms_add 3 (some .int) :: BW) { frames := 0, cells := 0, slots := 0, locals := 0 } (PCZ sz (dC, dI) [(cI, .int), (cZ, .boolean)] (wC cI cZ ad x) [.ref (ad 1), .int a1, .int a2]) (UQ (some (.int (g_Rooms_add x a1 a2).1)) (WB (dC, dI) [(cI, .int), (cZ, .boolean)] (wC cI cZ ad (g_Rooms_add x a1 a2).2)) (aC 29 ad sz)) 0 0 (aC 29 ad sz) := by
  refine MX.ofW (cc := b_Rooms_add) (maxL := 3) (ret := (some .int)) (by decide) rfl ?_
  intro p e s m args below meth c s₁ B hml hex hv
  obtain ⟨hsz, rfl, hP, hK, hN⟩ := hv
  subst hsz
  have hx := B.exec
  have hb := B.bytes
  have hr := B.returns
  have hts := atoms_spec (ws := Cond.code y_Rooms_add b_Rooms_add 3 (some .int) :: BW) B.pre
  have hbw : ∀ w ∈ BW, w.before ([.ref (ad 1), .int a1, .int a2]).toArray s = true := fun w h => hts w (List.mem_cons_of_mem _ h)
  have hown : s.vm.findClass "PlanRows$Rooms" = some m.cls := findClass_of_methodNamed B.named
  have hlocks := B.notSynchronized
  have hDx : ∀ z, va_D (aC 29 ad s.heap.size) (wC cI cZ ad z) := fun z => w_D hj (wC_ad cI cZ ad z) _
  have hA : ∀ H : Heap, s.heap.size ≤ H.size → ∀ q, aC 29 ad H.size q → aC 29 ad s.heap.size q := fun H h => aC_le h
  generalize aC 29 ad s.heap.size = A at hDx hA ⊢
  have hD := hDx x
  have hS : va_S A s.heap s.heap [] := va_S.rf
  have hI0 := hI
  have hl := lv_entry ([.ref (ad 1), .int a1, .int a2]) (n := 3) (Nat.le_of_ble_eq_true rfl)
  rw [lg_entry_eq]
  generalize (lg_sl ([.ref (ad 1), .int a1, .int a2]) ++ List.replicate (3 - (lg_sl ([.ref (ad 1), .int a1, .int a2])).length) Slot.unset).toArray = ls at hl ⊢
  obtain ⟨H, hH⟩ : ∃ H, H = s.heap := ⟨_, rfl⟩
  obtain ⟨locs, hlocs⟩ : ∃ locs : List Loc, locs = [] := ⟨_, rfl⟩
  have hP : va_P (dC, dI) clsA (wC cI cZ ad x) H := by rw [hH]; exact hP
  have hS : va_S A s.heap H locs := by rw [hH, hlocs]; exact hS
  rw [← hlocs]
  have hW0 : ∀ (R : Room) (Q : State → Prop) (g : JFrame), W p l e R s m ([.ref (ad 1), .int a1, .int a2]).toArray below meth c H locs 0 0 Q g → W p l e R s m ([.ref (ad 1), .int a1, .int a2]).toArray below meth c s.heap locs 0 0 Q g := fun R Q g h => by rw [← hH]; exact h
  refine hW0 _ _ _ ?_
  have hl : lv_has ls 3 [(0, .ref (ad 1)), (1, .int a1), (2, .int a2)] := hl
  refine lv_aload_n hx hb d_Rooms_add_0 rfl (lv_at hl 0 rfl) ?_
  refine va_get (D := (dC, dI)) (ci := 4) (v := .int (q_rn x)) (C := R_Rooms) (T := F_Rooms) (N := 4) hx hb hbw in_Rooms hown hK hP 1 rfl rfl 3 (by decide) (hbw _ w_37) (fun _ h9 => h9) rfl d_Rooms_add_1 ?_
  refine lv_bipush (v := 40) hx hb d_Rooms_add_4 (by decide) ?_
  refine lv_icmp_lt (tgt := 11) hx hb d_Rooms_add_6 (by decide) (fun c_1 => ?_) (fun c_1 => ?_)
  · refine lv_aload_n hx hb d_Rooms_add_11 rfl (lv_at hl 0 rfl) ?_
    refine va_get (D := (dC, dI)) (ci := 4) (v := .ref (ad 9)) (C := R_Rooms) (T := F_Rooms) (N := 4) hx hb hbw in_Rooms hown hK hP 1 rfl rfl 0 (by decide) (hbw _ w_34) (fun _ h9 => h9) rfl d_Rooms_add_12 ?_
    refine lv_aload_n hx hb d_Rooms_add_15 rfl (lv_at hl 0 rfl) ?_
    refine va_get (D := (dC, dI)) (ci := 4) (v := .int (q_rn x)) (C := R_Rooms) (T := F_Rooms) (N := 4) hx hb hbw in_Rooms hown hK hP 1 rfl rfl 3 (by decide) (hbw _ w_37) (fun _ h9 => h9) rfl d_Rooms_add_16 ?_
    refine lv_iload_n hx hb d_Rooms_add_19 rfl (lv_at hl 1 rfl) ?_
    refine va_iast hx hb hK hP hD hS 9 0 rfl rfl (ix_szl hI.1 c_1 rfl) d_Rooms_add_20 (fun H locs hP hD hS => ?_)
    rw [wC_s_fl] at hP hD
    refine lv_aload_n hx hb d_Rooms_add_21 rfl (lv_at hl 0 rfl) ?_
    refine va_get (D := (dC, dI)) (ci := 4) (v := .ref (ad 10)) (C := R_Rooms) (T := F_Rooms) (N := 4) hx hb hbw in_Rooms hown hK hP 1 rfl rfl 1 (by decide) (hbw _ w_35) (fun _ h9 => h9) rfl d_Rooms_add_22 ?_
    refine lv_aload_n hx hb d_Rooms_add_25 rfl (lv_at hl 0 rfl) ?_
    refine va_get (D := (dC, dI)) (ci := 4) (v := .int (q_rn (s_fl x (upd (q_fl x) (q_rn x).toNatClampNeg a1)))) (C := R_Rooms) (T := F_Rooms) (N := 4) hx hb hbw in_Rooms hown hK hP 1 rfl rfl 3 (by decide) (hbw _ w_37) (fun _ h9 => h9) rfl d_Rooms_add_26 ?_
    refine lv_iload_n hx hb d_Rooms_add_29 rfl (lv_at hl 2 rfl) ?_
    refine va_iast hx hb hK hP hD hS 10 0 rfl rfl (ix_szl hI.1 c_1 rfl) d_Rooms_add_30 (fun H locs hP hD hS => ?_)
    rw [wC_s_kd] at hP hD
    refine lv_aload_n hx hb d_Rooms_add_31 rfl (lv_at hl 0 rfl) ?_
    refine lv_dup hx hb d_Rooms_add_32 rfl ?_
    refine va_get (D := (dC, dI)) (ci := 4) (v := .int (q_rn (s_kd (s_fl x (upd (q_fl x) (q_rn x).toNatClampNeg a1)) (upd (q_kd (s_fl x (upd (q_fl x) (q_rn x).toNatClampNeg a1))) (q_rn (s_fl x (upd (q_fl x) (q_rn x).toNatClampNeg a1))).toNatClampNeg a2)))) (C := R_Rooms) (T := F_Rooms) (N := 4) hx hb hbw in_Rooms hown hK hP 1 rfl rfl 3 (by decide) (hbw _ w_37) (fun _ h9 => h9) rfl d_Rooms_add_33 ?_
    refine lv_iconst (v := 1) hx hb d_Rooms_add_36 (by decide) ?_
    refine lv_iadd hx hb d_Rooms_add_37 ?_
    refine va_put (D := (dC, dI)) (ci := 4) (v := .int ((q_rn (s_kd (s_fl x (upd (q_fl x) (q_rn x).toNatClampNeg a1)) (upd (q_kd (s_fl x (upd (q_fl x) (q_rn x).toNatClampNeg a1))) (q_rn (s_fl x (upd (q_fl x) (q_rn x).toNatClampNeg a1))).toNatClampNeg a2))) + 1)) (ty := .int) (C := R_Rooms) (T := F_Rooms) (N := 4) hx hb hbw in_Rooms t_Rooms t_Rooms_ok n_Rooms hown hK hP hD hS 1 rfl rfl 3 (by decide) (hbw _ w_37) (fun _ h9 => h9) rfl (by decide +kernel) rfl rfl (Nat.le_of_ble_eq_true rfl) d_Rooms_add_38 (fun H locs hP hD hS => ?_)
    rw [wC_s_rn] at hP hD
    refine lv_aload_n hx hb d_Rooms_add_41 rfl (lv_at hl 0 rfl) ?_
    refine va_get (D := (dC, dI)) (ci := 4) (v := .int (q_rn (s_rn (s_kd (s_fl x (upd (q_fl x) (q_rn x).toNatClampNeg a1)) (upd (q_kd (s_fl x (upd (q_fl x) (q_rn x).toNatClampNeg a1))) (q_rn (s_fl x (upd (q_fl x) (q_rn x).toNatClampNeg a1))).toNatClampNeg a2)) ((q_rn (s_kd (s_fl x (upd (q_fl x) (q_rn x).toNatClampNeg a1)) (upd (q_kd (s_fl x (upd (q_fl x) (q_rn x).toNatClampNeg a1))) (q_rn (s_fl x (upd (q_fl x) (q_rn x).toNatClampNeg a1))).toNatClampNeg a2))) + 1)))) (C := R_Rooms) (T := F_Rooms) (N := 4) hx hb hbw in_Rooms hown hK hP 1 rfl rfl 3 (by decide) (hbw _ w_37) (fun _ h9 => h9) rfl d_Rooms_add_42 ?_
    refine lv_iconst (v := 1) hx hb d_Rooms_add_45 (by decide) ?_
    refine lv_isub hx hb d_Rooms_add_46 ?_
    have hg : g_Rooms_add x a1 a2 = ((q_rn (s_rn (s_kd (s_fl x (upd (q_fl x) (q_rn x).toNatClampNeg a1)) (upd (q_kd (s_fl x (upd (q_fl x) (q_rn x).toNatClampNeg a1))) (q_rn (s_fl x (upd (q_fl x) (q_rn x).toNatClampNeg a1))).toNatClampNeg a2)) ((q_rn (s_kd (s_fl x (upd (q_fl x) (q_rn x).toNatClampNeg a1)) (upd (q_kd (s_fl x (upd (q_fl x) (q_rn x).toNatClampNeg a1))) (q_rn (s_fl x (upd (q_fl x) (q_rn x).toNatClampNeg a1))).toNatClampNeg a2))) + 1))) - 1, s_rn (s_kd (s_fl x (upd (q_fl x) (q_rn x).toNatClampNeg a1)) (upd (q_kd (s_fl x (upd (q_fl x) (q_rn x).toNatClampNeg a1))) (q_rn (s_fl x (upd (q_fl x) (q_rn x).toNatClampNeg a1))).toNatClampNeg a2)) ((q_rn (s_kd (s_fl x (upd (q_fl x) (q_rn x).toNatClampNeg a1)) (upd (q_kd (s_fl x (upd (q_fl x) (q_rn x).toNatClampNeg a1))) (q_rn (s_fl x (upd (q_fl x) (q_rn x).toNatClampNeg a1))).toNatClampNeg a2))) + 1)) := by unfold g_Rooms_add; rw [if_pos c_1]
    exact W.toX (W.iret (v := (q_rn (s_rn (s_kd (s_fl x (upd (q_fl x) (q_rn x).toNatClampNeg a1)) (upd (q_kd (s_fl x (upd (q_fl x) (q_rn x).toNatClampNeg a1))) (q_rn (s_fl x (upd (q_fl x) (q_rn x).toNatClampNeg a1))).toNatClampNeg a2)) ((q_rn (s_kd (s_fl x (upd (q_fl x) (q_rn x).toNatClampNeg a1)) (upd (q_kd (s_fl x (upd (q_fl x) (q_rn x).toNatClampNeg a1))) (q_rn (s_fl x (upd (q_fl x) (q_rn x).toNatClampNeg a1))).toNatClampNeg a2))) + 1))) - 1) hx hb hr (fun t ht hW => ⟨by rw [hg], ⟨by rw [ht, hg]; exact hP, va_K.moved hW.alike hK, hN.warm hW⟩, hS.F ht⟩) hS.2.2 d_Rooms_add_47)
  · refine lv_iconst (v := (-1)) hx hb d_Rooms_add_9 (by decide) ?_
    have hg : g_Rooms_add x a1 a2 = ((-1), x) := by unfold g_Rooms_add; rw [if_neg c_1]
    exact W.toX (W.iret (v := (-1)) hx hb hr (fun t ht hW => ⟨by rw [hg], ⟨by rw [ht, hg]; exact hP, va_K.moved hW.alike hK, hN.warm hW⟩, hS.F ht⟩) hS.2.2 d_Rooms_add_10)
def g_Doors_add (x : ST) (a1 a2 a3 a4 : Int32) : Int32 × ST := if (q_dn x) < 80 then ((q_dn (s_dn (s_dk (s_dc (s_db (s_da x (upd (q_da x) (q_dn x).toNatClampNeg a1)) (upd (q_db (s_da x (upd (q_da x) (q_dn x).toNatClampNeg a1))) (q_dn (s_da x (upd (q_da x) (q_dn x).toNatClampNeg a1))).toNatClampNeg a2)) (upd (q_dc (s_db (s_da x (upd (q_da x) (q_dn x).toNatClampNeg a1)) (upd (q_db (s_da x (upd (q_da x) (q_dn x).toNatClampNeg a1))) (q_dn (s_da x (upd (q_da x) (q_dn x).toNatClampNeg a1))).toNatClampNeg a2))) (q_dn (s_db (s_da x (upd (q_da x) (q_dn x).toNatClampNeg a1)) (upd (q_db (s_da x (upd (q_da x) (q_dn x).toNatClampNeg a1))) (q_dn (s_da x (upd (q_da x) (q_dn x).toNatClampNeg a1))).toNatClampNeg a2))).toNatClampNeg a3)) (upd (q_dk (s_dc (s_db (s_da x (upd (q_da x) (q_dn x).toNatClampNeg a1)) (upd (q_db (s_da x (upd (q_da x) (q_dn x).toNatClampNeg a1))) (q_dn (s_da x (upd (q_da x) (q_dn x).toNatClampNeg a1))).toNatClampNeg a2)) (upd (q_dc (s_db (s_da x (upd (q_da x) (q_dn x).toNatClampNeg a1)) (upd (q_db (s_da x (upd (q_da x) (q_dn x).toNatClampNeg a1))) (q_dn (s_da x (upd (q_da x) (q_dn x).toNatClampNeg a1))).toNatClampNeg a2))) (q_dn (s_db (s_da x (upd (q_da x) (q_dn x).toNatClampNeg a1)) (upd (q_db (s_da x (upd (q_da x) (q_dn x).toNatClampNeg a1))) (q_dn (s_da x (upd (q_da x) (q_dn x).toNatClampNeg a1))).toNatClampNeg a2))).toNatClampNeg a3))) (q_dn (s_dc (s_db (s_da x (upd (q_da x) (q_dn x).toNatClampNeg a1)) (upd (q_db (s_da x (upd (q_da x) (q_dn x).toNatClampNeg a1))) (q_dn (s_da x (upd (q_da x) (q_dn x).toNatClampNeg a1))).toNatClampNeg a2)) (upd (q_dc (s_db (s_da x (upd (q_da x) (q_dn x).toNatClampNeg a1)) (upd (q_db (s_da x (upd (q_da x) (q_dn x).toNatClampNeg a1))) (q_dn (s_da x (upd (q_da x) (q_dn x).toNatClampNeg a1))).toNatClampNeg a2))) (q_dn (s_db (s_da x (upd (q_da x) (q_dn x).toNatClampNeg a1)) (upd (q_db (s_da x (upd (q_da x) (q_dn x).toNatClampNeg a1))) (q_dn (s_da x (upd (q_da x) (q_dn x).toNatClampNeg a1))).toNatClampNeg a2))).toNatClampNeg a3))).toNatClampNeg a4)) ((q_dn (s_dk (s_dc (s_db (s_da x (upd (q_da x) (q_dn x).toNatClampNeg a1)) (upd (q_db (s_da x (upd (q_da x) (q_dn x).toNatClampNeg a1))) (q_dn (s_da x (upd (q_da x) (q_dn x).toNatClampNeg a1))).toNatClampNeg a2)) (upd (q_dc (s_db (s_da x (upd (q_da x) (q_dn x).toNatClampNeg a1)) (upd (q_db (s_da x (upd (q_da x) (q_dn x).toNatClampNeg a1))) (q_dn (s_da x (upd (q_da x) (q_dn x).toNatClampNeg a1))).toNatClampNeg a2))) (q_dn (s_db (s_da x (upd (q_da x) (q_dn x).toNatClampNeg a1)) (upd (q_db (s_da x (upd (q_da x) (q_dn x).toNatClampNeg a1))) (q_dn (s_da x (upd (q_da x) (q_dn x).toNatClampNeg a1))).toNatClampNeg a2))).toNatClampNeg a3)) (upd (q_dk (s_dc (s_db (s_da x (upd (q_da x) (q_dn x).toNatClampNeg a1)) (upd (q_db (s_da x (upd (q_da x) (q_dn x).toNatClampNeg a1))) (q_dn (s_da x (upd (q_da x) (q_dn x).toNatClampNeg a1))).toNatClampNeg a2)) (upd (q_dc (s_db (s_da x (upd (q_da x) (q_dn x).toNatClampNeg a1)) (upd (q_db (s_da x (upd (q_da x) (q_dn x).toNatClampNeg a1))) (q_dn (s_da x (upd (q_da x) (q_dn x).toNatClampNeg a1))).toNatClampNeg a2))) (q_dn (s_db (s_da x (upd (q_da x) (q_dn x).toNatClampNeg a1)) (upd (q_db (s_da x (upd (q_da x) (q_dn x).toNatClampNeg a1))) (q_dn (s_da x (upd (q_da x) (q_dn x).toNatClampNeg a1))).toNatClampNeg a2))).toNatClampNeg a3))) (q_dn (s_dc (s_db (s_da x (upd (q_da x) (q_dn x).toNatClampNeg a1)) (upd (q_db (s_da x (upd (q_da x) (q_dn x).toNatClampNeg a1))) (q_dn (s_da x (upd (q_da x) (q_dn x).toNatClampNeg a1))).toNatClampNeg a2)) (upd (q_dc (s_db (s_da x (upd (q_da x) (q_dn x).toNatClampNeg a1)) (upd (q_db (s_da x (upd (q_da x) (q_dn x).toNatClampNeg a1))) (q_dn (s_da x (upd (q_da x) (q_dn x).toNatClampNeg a1))).toNatClampNeg a2))) (q_dn (s_db (s_da x (upd (q_da x) (q_dn x).toNatClampNeg a1)) (upd (q_db (s_da x (upd (q_da x) (q_dn x).toNatClampNeg a1))) (q_dn (s_da x (upd (q_da x) (q_dn x).toNatClampNeg a1))).toNatClampNeg a2))).toNatClampNeg a3))).toNatClampNeg a4))) + 1))) - 1, s_dn (s_dk (s_dc (s_db (s_da x (upd (q_da x) (q_dn x).toNatClampNeg a1)) (upd (q_db (s_da x (upd (q_da x) (q_dn x).toNatClampNeg a1))) (q_dn (s_da x (upd (q_da x) (q_dn x).toNatClampNeg a1))).toNatClampNeg a2)) (upd (q_dc (s_db (s_da x (upd (q_da x) (q_dn x).toNatClampNeg a1)) (upd (q_db (s_da x (upd (q_da x) (q_dn x).toNatClampNeg a1))) (q_dn (s_da x (upd (q_da x) (q_dn x).toNatClampNeg a1))).toNatClampNeg a2))) (q_dn (s_db (s_da x (upd (q_da x) (q_dn x).toNatClampNeg a1)) (upd (q_db (s_da x (upd (q_da x) (q_dn x).toNatClampNeg a1))) (q_dn (s_da x (upd (q_da x) (q_dn x).toNatClampNeg a1))).toNatClampNeg a2))).toNatClampNeg a3)) (upd (q_dk (s_dc (s_db (s_da x (upd (q_da x) (q_dn x).toNatClampNeg a1)) (upd (q_db (s_da x (upd (q_da x) (q_dn x).toNatClampNeg a1))) (q_dn (s_da x (upd (q_da x) (q_dn x).toNatClampNeg a1))).toNatClampNeg a2)) (upd (q_dc (s_db (s_da x (upd (q_da x) (q_dn x).toNatClampNeg a1)) (upd (q_db (s_da x (upd (q_da x) (q_dn x).toNatClampNeg a1))) (q_dn (s_da x (upd (q_da x) (q_dn x).toNatClampNeg a1))).toNatClampNeg a2))) (q_dn (s_db (s_da x (upd (q_da x) (q_dn x).toNatClampNeg a1)) (upd (q_db (s_da x (upd (q_da x) (q_dn x).toNatClampNeg a1))) (q_dn (s_da x (upd (q_da x) (q_dn x).toNatClampNeg a1))).toNatClampNeg a2))).toNatClampNeg a3))) (q_dn (s_dc (s_db (s_da x (upd (q_da x) (q_dn x).toNatClampNeg a1)) (upd (q_db (s_da x (upd (q_da x) (q_dn x).toNatClampNeg a1))) (q_dn (s_da x (upd (q_da x) (q_dn x).toNatClampNeg a1))).toNatClampNeg a2)) (upd (q_dc (s_db (s_da x (upd (q_da x) (q_dn x).toNatClampNeg a1)) (upd (q_db (s_da x (upd (q_da x) (q_dn x).toNatClampNeg a1))) (q_dn (s_da x (upd (q_da x) (q_dn x).toNatClampNeg a1))).toNatClampNeg a2))) (q_dn (s_db (s_da x (upd (q_da x) (q_dn x).toNatClampNeg a1)) (upd (q_db (s_da x (upd (q_da x) (q_dn x).toNatClampNeg a1))) (q_dn (s_da x (upd (q_da x) (q_dn x).toNatClampNeg a1))).toNatClampNeg a2))).toNatClampNeg a3))).toNatClampNeg a4)) ((q_dn (s_dk (s_dc (s_db (s_da x (upd (q_da x) (q_dn x).toNatClampNeg a1)) (upd (q_db (s_da x (upd (q_da x) (q_dn x).toNatClampNeg a1))) (q_dn (s_da x (upd (q_da x) (q_dn x).toNatClampNeg a1))).toNatClampNeg a2)) (upd (q_dc (s_db (s_da x (upd (q_da x) (q_dn x).toNatClampNeg a1)) (upd (q_db (s_da x (upd (q_da x) (q_dn x).toNatClampNeg a1))) (q_dn (s_da x (upd (q_da x) (q_dn x).toNatClampNeg a1))).toNatClampNeg a2))) (q_dn (s_db (s_da x (upd (q_da x) (q_dn x).toNatClampNeg a1)) (upd (q_db (s_da x (upd (q_da x) (q_dn x).toNatClampNeg a1))) (q_dn (s_da x (upd (q_da x) (q_dn x).toNatClampNeg a1))).toNatClampNeg a2))).toNatClampNeg a3)) (upd (q_dk (s_dc (s_db (s_da x (upd (q_da x) (q_dn x).toNatClampNeg a1)) (upd (q_db (s_da x (upd (q_da x) (q_dn x).toNatClampNeg a1))) (q_dn (s_da x (upd (q_da x) (q_dn x).toNatClampNeg a1))).toNatClampNeg a2)) (upd (q_dc (s_db (s_da x (upd (q_da x) (q_dn x).toNatClampNeg a1)) (upd (q_db (s_da x (upd (q_da x) (q_dn x).toNatClampNeg a1))) (q_dn (s_da x (upd (q_da x) (q_dn x).toNatClampNeg a1))).toNatClampNeg a2))) (q_dn (s_db (s_da x (upd (q_da x) (q_dn x).toNatClampNeg a1)) (upd (q_db (s_da x (upd (q_da x) (q_dn x).toNatClampNeg a1))) (q_dn (s_da x (upd (q_da x) (q_dn x).toNatClampNeg a1))).toNatClampNeg a2))).toNatClampNeg a3))) (q_dn (s_dc (s_db (s_da x (upd (q_da x) (q_dn x).toNatClampNeg a1)) (upd (q_db (s_da x (upd (q_da x) (q_dn x).toNatClampNeg a1))) (q_dn (s_da x (upd (q_da x) (q_dn x).toNatClampNeg a1))).toNatClampNeg a2)) (upd (q_dc (s_db (s_da x (upd (q_da x) (q_dn x).toNatClampNeg a1)) (upd (q_db (s_da x (upd (q_da x) (q_dn x).toNatClampNeg a1))) (q_dn (s_da x (upd (q_da x) (q_dn x).toNatClampNeg a1))).toNatClampNeg a2))) (q_dn (s_db (s_da x (upd (q_da x) (q_dn x).toNatClampNeg a1)) (upd (q_db (s_da x (upd (q_da x) (q_dn x).toNatClampNeg a1))) (q_dn (s_da x (upd (q_da x) (q_dn x).toNatClampNeg a1))).toNatClampNeg a2))).toNatClampNeg a3))).toNatClampNeg a4))) + 1)) else ((-1), x)
set_option maxHeartbeats 4000000 in
set_option maxRecDepth 100000 in
theorem u_Doors_add (l : Launch) (dC : Nat → ClassId) (dI : Nat → Nat → Nat) (cI cZ : ClassId) (ad : Nat → Nat) (hj : aInj 29 ad) (x : ST) (hI : CIn x) (sz : Nat) (a1 a2 a3 a4 : Int32) : MX l y_Doors_add (Cond.code y_Doors_add b_Doors_add 5 (some .int) :: BW) { frames := 0, cells := 0, slots := 0, locals := 0 } (PCZ sz (dC, dI) [(cI, .int), (cZ, .boolean)] (wC cI cZ ad x) [.ref (ad 2), .int a1, .int a2, .int a3, .int a4]) (UQ (some (.int (g_Doors_add x a1 a2 a3 a4).1)) (WB (dC, dI) [(cI, .int), (cZ, .boolean)] (wC cI cZ ad (g_Doors_add x a1 a2 a3 a4).2)) (aC 29 ad sz)) 0 0 (aC 29 ad sz) := by
  refine MX.ofW (cc := b_Doors_add) (maxL := 5) (ret := (some .int)) (by decide) rfl ?_
  intro p e s m args below meth c s₁ B hml hex hv
  obtain ⟨hsz, rfl, hP, hK, hN⟩ := hv
  subst hsz
  have hx := B.exec
  have hb := B.bytes
  have hr := B.returns
  have hts := atoms_spec (ws := Cond.code y_Doors_add b_Doors_add 5 (some .int) :: BW) B.pre
  have hbw : ∀ w ∈ BW, w.before ([.ref (ad 2), .int a1, .int a2, .int a3, .int a4]).toArray s = true := fun w h => hts w (List.mem_cons_of_mem _ h)
  have hown : s.vm.findClass "PlanRows$Doors" = some m.cls := findClass_of_methodNamed B.named
  have hlocks := B.notSynchronized
  have hDx : ∀ z, va_D (aC 29 ad s.heap.size) (wC cI cZ ad z) := fun z => w_D hj (wC_ad cI cZ ad z) _
  have hA : ∀ H : Heap, s.heap.size ≤ H.size → ∀ q, aC 29 ad H.size q → aC 29 ad s.heap.size q := fun H h => aC_le h
  generalize aC 29 ad s.heap.size = A at hDx hA ⊢
  have hD := hDx x
  have hS : va_S A s.heap s.heap [] := va_S.rf
  have hI0 := hI
  have hl := lv_entry ([.ref (ad 2), .int a1, .int a2, .int a3, .int a4]) (n := 5) (Nat.le_of_ble_eq_true rfl)
  rw [lg_entry_eq]
  generalize (lg_sl ([.ref (ad 2), .int a1, .int a2, .int a3, .int a4]) ++ List.replicate (5 - (lg_sl ([.ref (ad 2), .int a1, .int a2, .int a3, .int a4])).length) Slot.unset).toArray = ls at hl ⊢
  obtain ⟨H, hH⟩ : ∃ H, H = s.heap := ⟨_, rfl⟩
  obtain ⟨locs, hlocs⟩ : ∃ locs : List Loc, locs = [] := ⟨_, rfl⟩
  have hP : va_P (dC, dI) clsA (wC cI cZ ad x) H := by rw [hH]; exact hP
  have hS : va_S A s.heap H locs := by rw [hH, hlocs]; exact hS
  rw [← hlocs]
  have hW0 : ∀ (R : Room) (Q : State → Prop) (g : JFrame), W p l e R s m ([.ref (ad 2), .int a1, .int a2, .int a3, .int a4]).toArray below meth c H locs 0 0 Q g → W p l e R s m ([.ref (ad 2), .int a1, .int a2, .int a3, .int a4]).toArray below meth c s.heap locs 0 0 Q g := fun R Q g h => by rw [← hH]; exact h
  refine hW0 _ _ _ ?_
  have hl : lv_has ls 5 [(0, .ref (ad 2)), (1, .int a1), (2, .int a2), (3, .int a3), (4, .int a4)] := hl
  refine lv_aload_n hx hb d_Doors_add_0 rfl (lv_at hl 0 rfl) ?_
  refine va_get (D := (dC, dI)) (ci := 2) (v := .int (q_dn x)) (C := R_Doors) (T := F_Doors) (N := 5) hx hb hbw in_Doors hown hK hP 2 rfl rfl 4 (by decide) (hbw _ w_60) (fun _ h9 => h9) rfl d_Doors_add_1 ?_
  refine lv_bipush (v := 80) hx hb d_Doors_add_4 (by decide) ?_
  refine lv_icmp_lt (tgt := 11) hx hb d_Doors_add_6 (by decide) (fun c_1 => ?_) (fun c_1 => ?_)
  · refine lv_aload_n hx hb d_Doors_add_11 rfl (lv_at hl 0 rfl) ?_
    refine va_get (D := (dC, dI)) (ci := 2) (v := .ref (ad 12)) (C := R_Doors) (T := F_Doors) (N := 5) hx hb hbw in_Doors hown hK hP 2 rfl rfl 0 (by decide) (hbw _ w_56) (fun _ h9 => h9) rfl d_Doors_add_12 ?_
    refine lv_aload_n hx hb d_Doors_add_15 rfl (lv_at hl 0 rfl) ?_
    refine va_get (D := (dC, dI)) (ci := 2) (v := .int (q_dn x)) (C := R_Doors) (T := F_Doors) (N := 5) hx hb hbw in_Doors hown hK hP 2 rfl rfl 4 (by decide) (hbw _ w_60) (fun _ h9 => h9) rfl d_Doors_add_16 ?_
    refine lv_iload_n hx hb d_Doors_add_19 rfl (lv_at hl 1 rfl) ?_
    refine va_iast hx hb hK hP hD hS 12 0 rfl rfl (ix_szl hI.2.1 c_1 rfl) d_Doors_add_20 (fun H locs hP hD hS => ?_)
    rw [wC_s_da] at hP hD
    refine lv_aload_n hx hb d_Doors_add_21 rfl (lv_at hl 0 rfl) ?_
    refine va_get (D := (dC, dI)) (ci := 2) (v := .ref (ad 13)) (C := R_Doors) (T := F_Doors) (N := 5) hx hb hbw in_Doors hown hK hP 2 rfl rfl 1 (by decide) (hbw _ w_57) (fun _ h9 => h9) rfl d_Doors_add_22 ?_
    refine lv_aload_n hx hb d_Doors_add_25 rfl (lv_at hl 0 rfl) ?_
    refine va_get (D := (dC, dI)) (ci := 2) (v := .int (q_dn (s_da x (upd (q_da x) (q_dn x).toNatClampNeg a1)))) (C := R_Doors) (T := F_Doors) (N := 5) hx hb hbw in_Doors hown hK hP 2 rfl rfl 4 (by decide) (hbw _ w_60) (fun _ h9 => h9) rfl d_Doors_add_26 ?_
    refine lv_iload_n hx hb d_Doors_add_29 rfl (lv_at hl 2 rfl) ?_
    refine va_iast hx hb hK hP hD hS 13 0 rfl rfl (ix_szl hI.2.1 c_1 rfl) d_Doors_add_30 (fun H locs hP hD hS => ?_)
    rw [wC_s_db] at hP hD
    refine lv_aload_n hx hb d_Doors_add_31 rfl (lv_at hl 0 rfl) ?_
    refine va_get (D := (dC, dI)) (ci := 2) (v := .ref (ad 14)) (C := R_Doors) (T := F_Doors) (N := 5) hx hb hbw in_Doors hown hK hP 2 rfl rfl 2 (by decide) (hbw _ w_58) (fun _ h9 => h9) rfl d_Doors_add_32 ?_
    refine lv_aload_n hx hb d_Doors_add_35 rfl (lv_at hl 0 rfl) ?_
    refine va_get (D := (dC, dI)) (ci := 2) (v := .int (q_dn (s_db (s_da x (upd (q_da x) (q_dn x).toNatClampNeg a1)) (upd (q_db (s_da x (upd (q_da x) (q_dn x).toNatClampNeg a1))) (q_dn (s_da x (upd (q_da x) (q_dn x).toNatClampNeg a1))).toNatClampNeg a2)))) (C := R_Doors) (T := F_Doors) (N := 5) hx hb hbw in_Doors hown hK hP 2 rfl rfl 4 (by decide) (hbw _ w_60) (fun _ h9 => h9) rfl d_Doors_add_36 ?_
    refine lv_iload_n hx hb d_Doors_add_39 rfl (lv_at hl 3 rfl) ?_
    refine va_iast hx hb hK hP hD hS 14 0 rfl rfl (ix_szl hI.2.1 c_1 rfl) d_Doors_add_40 (fun H locs hP hD hS => ?_)
    rw [wC_s_dc] at hP hD
    refine lv_aload_n hx hb d_Doors_add_41 rfl (lv_at hl 0 rfl) ?_
    refine va_get (D := (dC, dI)) (ci := 2) (v := .ref (ad 15)) (C := R_Doors) (T := F_Doors) (N := 5) hx hb hbw in_Doors hown hK hP 2 rfl rfl 3 (by decide) (hbw _ w_59) (fun _ h9 => h9) rfl d_Doors_add_42 ?_
    refine lv_aload_n hx hb d_Doors_add_45 rfl (lv_at hl 0 rfl) ?_
    refine va_get (D := (dC, dI)) (ci := 2) (v := .int (q_dn (s_dc (s_db (s_da x (upd (q_da x) (q_dn x).toNatClampNeg a1)) (upd (q_db (s_da x (upd (q_da x) (q_dn x).toNatClampNeg a1))) (q_dn (s_da x (upd (q_da x) (q_dn x).toNatClampNeg a1))).toNatClampNeg a2)) (upd (q_dc (s_db (s_da x (upd (q_da x) (q_dn x).toNatClampNeg a1)) (upd (q_db (s_da x (upd (q_da x) (q_dn x).toNatClampNeg a1))) (q_dn (s_da x (upd (q_da x) (q_dn x).toNatClampNeg a1))).toNatClampNeg a2))) (q_dn (s_db (s_da x (upd (q_da x) (q_dn x).toNatClampNeg a1)) (upd (q_db (s_da x (upd (q_da x) (q_dn x).toNatClampNeg a1))) (q_dn (s_da x (upd (q_da x) (q_dn x).toNatClampNeg a1))).toNatClampNeg a2))).toNatClampNeg a3)))) (C := R_Doors) (T := F_Doors) (N := 5) hx hb hbw in_Doors hown hK hP 2 rfl rfl 4 (by decide) (hbw _ w_60) (fun _ h9 => h9) rfl d_Doors_add_46 ?_
    refine lv_iload hx hb d_Doors_add_49 (lv_at hl 4 rfl) ?_
    refine va_iast hx hb hK hP hD hS 15 0 rfl rfl (ix_szl hI.2.1 c_1 rfl) d_Doors_add_51 (fun H locs hP hD hS => ?_)
    rw [wC_s_dk] at hP hD
    refine lv_aload_n hx hb d_Doors_add_52 rfl (lv_at hl 0 rfl) ?_
    refine lv_dup hx hb d_Doors_add_53 rfl ?_
    refine va_get (D := (dC, dI)) (ci := 2) (v := .int (q_dn (s_dk (s_dc (s_db (s_da x (upd (q_da x) (q_dn x).toNatClampNeg a1)) (upd (q_db (s_da x (upd (q_da x) (q_dn x).toNatClampNeg a1))) (q_dn (s_da x (upd (q_da x) (q_dn x).toNatClampNeg a1))).toNatClampNeg a2)) (upd (q_dc (s_db (s_da x (upd (q_da x) (q_dn x).toNatClampNeg a1)) (upd (q_db (s_da x (upd (q_da x) (q_dn x).toNatClampNeg a1))) (q_dn (s_da x (upd (q_da x) (q_dn x).toNatClampNeg a1))).toNatClampNeg a2))) (q_dn (s_db (s_da x (upd (q_da x) (q_dn x).toNatClampNeg a1)) (upd (q_db (s_da x (upd (q_da x) (q_dn x).toNatClampNeg a1))) (q_dn (s_da x (upd (q_da x) (q_dn x).toNatClampNeg a1))).toNatClampNeg a2))).toNatClampNeg a3)) (upd (q_dk (s_dc (s_db (s_da x (upd (q_da x) (q_dn x).toNatClampNeg a1)) (upd (q_db (s_da x (upd (q_da x) (q_dn x).toNatClampNeg a1))) (q_dn (s_da x (upd (q_da x) (q_dn x).toNatClampNeg a1))).toNatClampNeg a2)) (upd (q_dc (s_db (s_da x (upd (q_da x) (q_dn x).toNatClampNeg a1)) (upd (q_db (s_da x (upd (q_da x) (q_dn x).toNatClampNeg a1))) (q_dn (s_da x (upd (q_da x) (q_dn x).toNatClampNeg a1))).toNatClampNeg a2))) (q_dn (s_db (s_da x (upd (q_da x) (q_dn x).toNatClampNeg a1)) (upd (q_db (s_da x (upd (q_da x) (q_dn x).toNatClampNeg a1))) (q_dn (s_da x (upd (q_da x) (q_dn x).toNatClampNeg a1))).toNatClampNeg a2))).toNatClampNeg a3))) (q_dn (s_dc (s_db (s_da x (upd (q_da x) (q_dn x).toNatClampNeg a1)) (upd (q_db (s_da x (upd (q_da x) (q_dn x).toNatClampNeg a1))) (q_dn (s_da x (upd (q_da x) (q_dn x).toNatClampNeg a1))).toNatClampNeg a2)) (upd (q_dc (s_db (s_da x (upd (q_da x) (q_dn x).toNatClampNeg a1)) (upd (q_db (s_da x (upd (q_da x) (q_dn x).toNatClampNeg a1))) (q_dn (s_da x (upd (q_da x) (q_dn x).toNatClampNeg a1))).toNatClampNeg a2))) (q_dn (s_db (s_da x (upd (q_da x) (q_dn x).toNatClampNeg a1)) (upd (q_db (s_da x (upd (q_da x) (q_dn x).toNatClampNeg a1))) (q_dn (s_da x (upd (q_da x) (q_dn x).toNatClampNeg a1))).toNatClampNeg a2))).toNatClampNeg a3))).toNatClampNeg a4)))) (C := R_Doors) (T := F_Doors) (N := 5) hx hb hbw in_Doors hown hK hP 2 rfl rfl 4 (by decide) (hbw _ w_60) (fun _ h9 => h9) rfl d_Doors_add_54 ?_
    refine lv_iconst (v := 1) hx hb d_Doors_add_57 (by decide) ?_
    refine lv_iadd hx hb d_Doors_add_58 ?_
    refine va_put (D := (dC, dI)) (ci := 2) (v := .int ((q_dn (s_dk (s_dc (s_db (s_da x (upd (q_da x) (q_dn x).toNatClampNeg a1)) (upd (q_db (s_da x (upd (q_da x) (q_dn x).toNatClampNeg a1))) (q_dn (s_da x (upd (q_da x) (q_dn x).toNatClampNeg a1))).toNatClampNeg a2)) (upd (q_dc (s_db (s_da x (upd (q_da x) (q_dn x).toNatClampNeg a1)) (upd (q_db (s_da x (upd (q_da x) (q_dn x).toNatClampNeg a1))) (q_dn (s_da x (upd (q_da x) (q_dn x).toNatClampNeg a1))).toNatClampNeg a2))) (q_dn (s_db (s_da x (upd (q_da x) (q_dn x).toNatClampNeg a1)) (upd (q_db (s_da x (upd (q_da x) (q_dn x).toNatClampNeg a1))) (q_dn (s_da x (upd (q_da x) (q_dn x).toNatClampNeg a1))).toNatClampNeg a2))).toNatClampNeg a3)) (upd (q_dk (s_dc (s_db (s_da x (upd (q_da x) (q_dn x).toNatClampNeg a1)) (upd (q_db (s_da x (upd (q_da x) (q_dn x).toNatClampNeg a1))) (q_dn (s_da x (upd (q_da x) (q_dn x).toNatClampNeg a1))).toNatClampNeg a2)) (upd (q_dc (s_db (s_da x (upd (q_da x) (q_dn x).toNatClampNeg a1)) (upd (q_db (s_da x (upd (q_da x) (q_dn x).toNatClampNeg a1))) (q_dn (s_da x (upd (q_da x) (q_dn x).toNatClampNeg a1))).toNatClampNeg a2))) (q_dn (s_db (s_da x (upd (q_da x) (q_dn x).toNatClampNeg a1)) (upd (q_db (s_da x (upd (q_da x) (q_dn x).toNatClampNeg a1))) (q_dn (s_da x (upd (q_da x) (q_dn x).toNatClampNeg a1))).toNatClampNeg a2))).toNatClampNeg a3))) (q_dn (s_dc (s_db (s_da x (upd (q_da x) (q_dn x).toNatClampNeg a1)) (upd (q_db (s_da x (upd (q_da x) (q_dn x).toNatClampNeg a1))) (q_dn (s_da x (upd (q_da x) (q_dn x).toNatClampNeg a1))).toNatClampNeg a2)) (upd (q_dc (s_db (s_da x (upd (q_da x) (q_dn x).toNatClampNeg a1)) (upd (q_db (s_da x (upd (q_da x) (q_dn x).toNatClampNeg a1))) (q_dn (s_da x (upd (q_da x) (q_dn x).toNatClampNeg a1))).toNatClampNeg a2))) (q_dn (s_db (s_da x (upd (q_da x) (q_dn x).toNatClampNeg a1)) (upd (q_db (s_da x (upd (q_da x) (q_dn x).toNatClampNeg a1))) (q_dn (s_da x (upd (q_da x) (q_dn x).toNatClampNeg a1))).toNatClampNeg a2))).toNatClampNeg a3))).toNatClampNeg a4))) + 1)) (ty := .int) (C := R_Doors) (T := F_Doors) (N := 5) hx hb hbw in_Doors t_Doors t_Doors_ok n_Doors hown hK hP hD hS 2 rfl rfl 4 (by decide) (hbw _ w_60) (fun _ h9 => h9) rfl (by decide +kernel) rfl rfl (Nat.le_of_ble_eq_true rfl) d_Doors_add_59 (fun H locs hP hD hS => ?_)
    rw [wC_s_dn] at hP hD
    refine lv_aload_n hx hb d_Doors_add_62 rfl (lv_at hl 0 rfl) ?_
    refine va_get (D := (dC, dI)) (ci := 2) (v := .int (q_dn (s_dn (s_dk (s_dc (s_db (s_da x (upd (q_da x) (q_dn x).toNatClampNeg a1)) (upd (q_db (s_da x (upd (q_da x) (q_dn x).toNatClampNeg a1))) (q_dn (s_da x (upd (q_da x) (q_dn x).toNatClampNeg a1))).toNatClampNeg a2)) (upd (q_dc (s_db (s_da x (upd (q_da x) (q_dn x).toNatClampNeg a1)) (upd (q_db (s_da x (upd (q_da x) (q_dn x).toNatClampNeg a1))) (q_dn (s_da x (upd (q_da x) (q_dn x).toNatClampNeg a1))).toNatClampNeg a2))) (q_dn (s_db (s_da x (upd (q_da x) (q_dn x).toNatClampNeg a1)) (upd (q_db (s_da x (upd (q_da x) (q_dn x).toNatClampNeg a1))) (q_dn (s_da x (upd (q_da x) (q_dn x).toNatClampNeg a1))).toNatClampNeg a2))).toNatClampNeg a3)) (upd (q_dk (s_dc (s_db (s_da x (upd (q_da x) (q_dn x).toNatClampNeg a1)) (upd (q_db (s_da x (upd (q_da x) (q_dn x).toNatClampNeg a1))) (q_dn (s_da x (upd (q_da x) (q_dn x).toNatClampNeg a1))).toNatClampNeg a2)) (upd (q_dc (s_db (s_da x (upd (q_da x) (q_dn x).toNatClampNeg a1)) (upd (q_db (s_da x (upd (q_da x) (q_dn x).toNatClampNeg a1))) (q_dn (s_da x (upd (q_da x) (q_dn x).toNatClampNeg a1))).toNatClampNeg a2))) (q_dn (s_db (s_da x (upd (q_da x) (q_dn x).toNatClampNeg a1)) (upd (q_db (s_da x (upd (q_da x) (q_dn x).toNatClampNeg a1))) (q_dn (s_da x (upd (q_da x) (q_dn x).toNatClampNeg a1))).toNatClampNeg a2))).toNatClampNeg a3))) (q_dn (s_dc (s_db (s_da x (upd (q_da x) (q_dn x).toNatClampNeg a1)) (upd (q_db (s_da x (upd (q_da x) (q_dn x).toNatClampNeg a1))) (q_dn (s_da x (upd (q_da x) (q_dn x).toNatClampNeg a1))).toNatClampNeg a2)) (upd (q_dc (s_db (s_da x (upd (q_da x) (q_dn x).toNatClampNeg a1)) (upd (q_db (s_da x (upd (q_da x) (q_dn x).toNatClampNeg a1))) (q_dn (s_da x (upd (q_da x) (q_dn x).toNatClampNeg a1))).toNatClampNeg a2))) (q_dn (s_db (s_da x (upd (q_da x) (q_dn x).toNatClampNeg a1)) (upd (q_db (s_da x (upd (q_da x) (q_dn x).toNatClampNeg a1))) (q_dn (s_da x (upd (q_da x) (q_dn x).toNatClampNeg a1))).toNatClampNeg a2))).toNatClampNeg a3))).toNatClampNeg a4)) ((q_dn (s_dk (s_dc (s_db (s_da x (upd (q_da x) (q_dn x).toNatClampNeg a1)) (upd (q_db (s_da x (upd (q_da x) (q_dn x).toNatClampNeg a1))) (q_dn (s_da x (upd (q_da x) (q_dn x).toNatClampNeg a1))).toNatClampNeg a2)) (upd (q_dc (s_db (s_da x (upd (q_da x) (q_dn x).toNatClampNeg a1)) (upd (q_db (s_da x (upd (q_da x) (q_dn x).toNatClampNeg a1))) (q_dn (s_da x (upd (q_da x) (q_dn x).toNatClampNeg a1))).toNatClampNeg a2))) (q_dn (s_db (s_da x (upd (q_da x) (q_dn x).toNatClampNeg a1)) (upd (q_db (s_da x (upd (q_da x) (q_dn x).toNatClampNeg a1))) (q_dn (s_da x (upd (q_da x) (q_dn x).toNatClampNeg a1))).toNatClampNeg a2))).toNatClampNeg a3)) (upd (q_dk (s_dc (s_db (s_da x (upd (q_da x) (q_dn x).toNatClampNeg a1)) (upd (q_db (s_da x (upd (q_da x) (q_dn x).toNatClampNeg a1))) (q_dn (s_da x (upd (q_da x) (q_dn x).toNatClampNeg a1))).toNatClampNeg a2)) (upd (q_dc (s_db (s_da x (upd (q_da x) (q_dn x).toNatClampNeg a1)) (upd (q_db (s_da x (upd (q_da x) (q_dn x).toNatClampNeg a1))) (q_dn (s_da x (upd (q_da x) (q_dn x).toNatClampNeg a1))).toNatClampNeg a2))) (q_dn (s_db (s_da x (upd (q_da x) (q_dn x).toNatClampNeg a1)) (upd (q_db (s_da x (upd (q_da x) (q_dn x).toNatClampNeg a1))) (q_dn (s_da x (upd (q_da x) (q_dn x).toNatClampNeg a1))).toNatClampNeg a2))).toNatClampNeg a3))) (q_dn (s_dc (s_db (s_da x (upd (q_da x) (q_dn x).toNatClampNeg a1)) (upd (q_db (s_da x (upd (q_da x) (q_dn x).toNatClampNeg a1))) (q_dn (s_da x (upd (q_da x) (q_dn x).toNatClampNeg a1))).toNatClampNeg a2)) (upd (q_dc (s_db (s_da x (upd (q_da x) (q_dn x).toNatClampNeg a1)) (upd (q_db (s_da x (upd (q_da x) (q_dn x).toNatClampNeg a1))) (q_dn (s_da x (upd (q_da x) (q_dn x).toNatClampNeg a1))).toNatClampNeg a2))) (q_dn (s_db (s_da x (upd (q_da x) (q_dn x).toNatClampNeg a1)) (upd (q_db (s_da x (upd (q_da x) (q_dn x).toNatClampNeg a1))) (q_dn (s_da x (upd (q_da x) (q_dn x).toNatClampNeg a1))).toNatClampNeg a2))).toNatClampNeg a3))).toNatClampNeg a4))) + 1)))) (C := R_Doors) (T := F_Doors) (N := 5) hx hb hbw in_Doors hown hK hP 2 rfl rfl 4 (by decide) (hbw _ w_60) (fun _ h9 => h9) rfl d_Doors_add_63 ?_
    refine lv_iconst (v := 1) hx hb d_Doors_add_66 (by decide) ?_
    refine lv_isub hx hb d_Doors_add_67 ?_
    have hg : g_Doors_add x a1 a2 a3 a4 = ((q_dn (s_dn (s_dk (s_dc (s_db (s_da x (upd (q_da x) (q_dn x).toNatClampNeg a1)) (upd (q_db (s_da x (upd (q_da x) (q_dn x).toNatClampNeg a1))) (q_dn (s_da x (upd (q_da x) (q_dn x).toNatClampNeg a1))).toNatClampNeg a2)) (upd (q_dc (s_db (s_da x (upd (q_da x) (q_dn x).toNatClampNeg a1)) (upd (q_db (s_da x (upd (q_da x) (q_dn x).toNatClampNeg a1))) (q_dn (s_da x (upd (q_da x) (q_dn x).toNatClampNeg a1))).toNatClampNeg a2))) (q_dn (s_db (s_da x (upd (q_da x) (q_dn x).toNatClampNeg a1)) (upd (q_db (s_da x (upd (q_da x) (q_dn x).toNatClampNeg a1))) (q_dn (s_da x (upd (q_da x) (q_dn x).toNatClampNeg a1))).toNatClampNeg a2))).toNatClampNeg a3)) (upd (q_dk (s_dc (s_db (s_da x (upd (q_da x) (q_dn x).toNatClampNeg a1)) (upd (q_db (s_da x (upd (q_da x) (q_dn x).toNatClampNeg a1))) (q_dn (s_da x (upd (q_da x) (q_dn x).toNatClampNeg a1))).toNatClampNeg a2)) (upd (q_dc (s_db (s_da x (upd (q_da x) (q_dn x).toNatClampNeg a1)) (upd (q_db (s_da x (upd (q_da x) (q_dn x).toNatClampNeg a1))) (q_dn (s_da x (upd (q_da x) (q_dn x).toNatClampNeg a1))).toNatClampNeg a2))) (q_dn (s_db (s_da x (upd (q_da x) (q_dn x).toNatClampNeg a1)) (upd (q_db (s_da x (upd (q_da x) (q_dn x).toNatClampNeg a1))) (q_dn (s_da x (upd (q_da x) (q_dn x).toNatClampNeg a1))).toNatClampNeg a2))).toNatClampNeg a3))) (q_dn (s_dc (s_db (s_da x (upd (q_da x) (q_dn x).toNatClampNeg a1)) (upd (q_db (s_da x (upd (q_da x) (q_dn x).toNatClampNeg a1))) (q_dn (s_da x (upd (q_da x) (q_dn x).toNatClampNeg a1))).toNatClampNeg a2)) (upd (q_dc (s_db (s_da x (upd (q_da x) (q_dn x).toNatClampNeg a1)) (upd (q_db (s_da x (upd (q_da x) (q_dn x).toNatClampNeg a1))) (q_dn (s_da x (upd (q_da x) (q_dn x).toNatClampNeg a1))).toNatClampNeg a2))) (q_dn (s_db (s_da x (upd (q_da x) (q_dn x).toNatClampNeg a1)) (upd (q_db (s_da x (upd (q_da x) (q_dn x).toNatClampNeg a1))) (q_dn (s_da x (upd (q_da x) (q_dn x).toNatClampNeg a1))).toNatClampNeg a2))).toNatClampNeg a3))).toNatClampNeg a4)) ((q_dn (s_dk (s_dc (s_db (s_da x (upd (q_da x) (q_dn x).toNatClampNeg a1)) (upd (q_db (s_da x (upd (q_da x) (q_dn x).toNatClampNeg a1))) (q_dn (s_da x (upd (q_da x) (q_dn x).toNatClampNeg a1))).toNatClampNeg a2)) (upd (q_dc (s_db (s_da x (upd (q_da x) (q_dn x).toNatClampNeg a1)) (upd (q_db (s_da x (upd (q_da x) (q_dn x).toNatClampNeg a1))) (q_dn (s_da x (upd (q_da x) (q_dn x).toNatClampNeg a1))).toNatClampNeg a2))) (q_dn (s_db (s_da x (upd (q_da x) (q_dn x).toNatClampNeg a1)) (upd (q_db (s_da x (upd (q_da x) (q_dn x).toNatClampNeg a1))) (q_dn (s_da x (upd (q_da x) (q_dn x).toNatClampNeg a1))).toNatClampNeg a2))).toNatClampNeg a3)) (upd (q_dk (s_dc (s_db (s_da x (upd (q_da x) (q_dn x).toNatClampNeg a1)) (upd (q_db (s_da x (upd (q_da x) (q_dn x).toNatClampNeg a1))) (q_dn (s_da x (upd (q_da x) (q_dn x).toNatClampNeg a1))).toNatClampNeg a2)) (upd (q_dc (s_db (s_da x (upd (q_da x) (q_dn x).toNatClampNeg a1)) (upd (q_db (s_da x (upd (q_da x) (q_dn x).toNatClampNeg a1))) (q_dn (s_da x (upd (q_da x) (q_dn x).toNatClampNeg a1))).toNatClampNeg a2))) (q_dn (s_db (s_da x (upd (q_da x) (q_dn x).toNatClampNeg a1)) (upd (q_db (s_da x (upd (q_da x) (q_dn x).toNatClampNeg a1))) (q_dn (s_da x (upd (q_da x) (q_dn x).toNatClampNeg a1))).toNatClampNeg a2))).toNatClampNeg a3))) (q_dn (s_dc (s_db (s_da x (upd (q_da x) (q_dn x).toNatClampNeg a1)) (upd (q_db (s_da x (upd (q_da x) (q_dn x).toNatClampNeg a1))) (q_dn (s_da x (upd (q_da x) (q_dn x).toNatClampNeg a1))).toNatClampNeg a2)) (upd (q_dc (s_db (s_da x (upd (q_da x) (q_dn x).toNatClampNeg a1)) (upd (q_db (s_da x (upd (q_da x) (q_dn x).toNatClampNeg a1))) (q_dn (s_da x (upd (q_da x) (q_dn x).toNatClampNeg a1))).toNatClampNeg a2))) (q_dn (s_db (s_da x (upd (q_da x) (q_dn x).toNatClampNeg a1)) (upd (q_db (s_da x (upd (q_da x) (q_dn x).toNatClampNeg a1))) (q_dn (s_da x (upd (q_da x) (q_dn x).toNatClampNeg a1))).toNatClampNeg a2))).toNatClampNeg a3))).toNatClampNeg a4))) + 1))) - 1, s_dn (s_dk (s_dc (s_db (s_da x (upd (q_da x) (q_dn x).toNatClampNeg a1)) (upd (q_db (s_da x (upd (q_da x) (q_dn x).toNatClampNeg a1))) (q_dn (s_da x (upd (q_da x) (q_dn x).toNatClampNeg a1))).toNatClampNeg a2)) (upd (q_dc (s_db (s_da x (upd (q_da x) (q_dn x).toNatClampNeg a1)) (upd (q_db (s_da x (upd (q_da x) (q_dn x).toNatClampNeg a1))) (q_dn (s_da x (upd (q_da x) (q_dn x).toNatClampNeg a1))).toNatClampNeg a2))) (q_dn (s_db (s_da x (upd (q_da x) (q_dn x).toNatClampNeg a1)) (upd (q_db (s_da x (upd (q_da x) (q_dn x).toNatClampNeg a1))) (q_dn (s_da x (upd (q_da x) (q_dn x).toNatClampNeg a1))).toNatClampNeg a2))).toNatClampNeg a3)) (upd (q_dk (s_dc (s_db (s_da x (upd (q_da x) (q_dn x).toNatClampNeg a1)) (upd (q_db (s_da x (upd (q_da x) (q_dn x).toNatClampNeg a1))) (q_dn (s_da x (upd (q_da x) (q_dn x).toNatClampNeg a1))).toNatClampNeg a2)) (upd (q_dc (s_db (s_da x (upd (q_da x) (q_dn x).toNatClampNeg a1)) (upd (q_db (s_da x (upd (q_da x) (q_dn x).toNatClampNeg a1))) (q_dn (s_da x (upd (q_da x) (q_dn x).toNatClampNeg a1))).toNatClampNeg a2))) (q_dn (s_db (s_da x (upd (q_da x) (q_dn x).toNatClampNeg a1)) (upd (q_db (s_da x (upd (q_da x) (q_dn x).toNatClampNeg a1))) (q_dn (s_da x (upd (q_da x) (q_dn x).toNatClampNeg a1))).toNatClampNeg a2))).toNatClampNeg a3))) (q_dn (s_dc (s_db (s_da x (upd (q_da x) (q_dn x).toNatClampNeg a1)) (upd (q_db (s_da x (upd (q_da x) (q_dn x).toNatClampNeg a1))) (q_dn (s_da x (upd (q_da x) (q_dn x).toNatClampNeg a1))).toNatClampNeg a2)) (upd (q_dc (s_db (s_da x (upd (q_da x) (q_dn x).toNatClampNeg a1)) (upd (q_db (s_da x (upd (q_da x) (q_dn x).toNatClampNeg a1))) (q_dn (s_da x (upd (q_da x) (q_dn x).toNatClampNeg a1))).toNatClampNeg a2))) (q_dn (s_db (s_da x (upd (q_da x) (q_dn x).toNatClampNeg a1)) (upd (q_db (s_da x (upd (q_da x) (q_dn x).toNatClampNeg a1))) (q_dn (s_da x (upd (q_da x) (q_dn x).toNatClampNeg a1))).toNatClampNeg a2))).toNatClampNeg a3))).toNatClampNeg a4)) ((q_dn (s_dk (s_dc (s_db (s_da x (upd (q_da x) (q_dn x).toNatClampNeg a1)) (upd (q_db (s_da x (upd (q_da x) (q_dn x).toNatClampNeg a1))) (q_dn (s_da x (upd (q_da x) (q_dn x).toNatClampNeg a1))).toNatClampNeg a2)) (upd (q_dc (s_db (s_da x (upd (q_da x) (q_dn x).toNatClampNeg a1)) (upd (q_db (s_da x (upd (q_da x) (q_dn x).toNatClampNeg a1))) (q_dn (s_da x (upd (q_da x) (q_dn x).toNatClampNeg a1))).toNatClampNeg a2))) (q_dn (s_db (s_da x (upd (q_da x) (q_dn x).toNatClampNeg a1)) (upd (q_db (s_da x (upd (q_da x) (q_dn x).toNatClampNeg a1))) (q_dn (s_da x (upd (q_da x) (q_dn x).toNatClampNeg a1))).toNatClampNeg a2))).toNatClampNeg a3)) (upd (q_dk (s_dc (s_db (s_da x (upd (q_da x) (q_dn x).toNatClampNeg a1)) (upd (q_db (s_da x (upd (q_da x) (q_dn x).toNatClampNeg a1))) (q_dn (s_da x (upd (q_da x) (q_dn x).toNatClampNeg a1))).toNatClampNeg a2)) (upd (q_dc (s_db (s_da x (upd (q_da x) (q_dn x).toNatClampNeg a1)) (upd (q_db (s_da x (upd (q_da x) (q_dn x).toNatClampNeg a1))) (q_dn (s_da x (upd (q_da x) (q_dn x).toNatClampNeg a1))).toNatClampNeg a2))) (q_dn (s_db (s_da x (upd (q_da x) (q_dn x).toNatClampNeg a1)) (upd (q_db (s_da x (upd (q_da x) (q_dn x).toNatClampNeg a1))) (q_dn (s_da x (upd (q_da x) (q_dn x).toNatClampNeg a1))).toNatClampNeg a2))).toNatClampNeg a3))) (q_dn (s_dc (s_db (s_da x (upd (q_da x) (q_dn x).toNatClampNeg a1)) (upd (q_db (s_da x (upd (q_da x) (q_dn x).toNatClampNeg a1))) (q_dn (s_da x (upd (q_da x) (q_dn x).toNatClampNeg a1))).toNatClampNeg a2)) (upd (q_dc (s_db (s_da x (upd (q_da x) (q_dn x).toNatClampNeg a1)) (upd (q_db (s_da x (upd (q_da x) (q_dn x).toNatClampNeg a1))) (q_dn (s_da x (upd (q_da x) (q_dn x).toNatClampNeg a1))).toNatClampNeg a2))) (q_dn (s_db (s_da x (upd (q_da x) (q_dn x).toNatClampNeg a1)) (upd (q_db (s_da x (upd (q_da x) (q_dn x).toNatClampNeg a1))) (q_dn (s_da x (upd (q_da x) (q_dn x).toNatClampNeg a1))).toNatClampNeg a2))).toNatClampNeg a3))).toNatClampNeg a4))) + 1)) := by unfold g_Doors_add; rw [if_pos c_1]
    exact W.toX (W.iret (v := (q_dn (s_dn (s_dk (s_dc (s_db (s_da x (upd (q_da x) (q_dn x).toNatClampNeg a1)) (upd (q_db (s_da x (upd (q_da x) (q_dn x).toNatClampNeg a1))) (q_dn (s_da x (upd (q_da x) (q_dn x).toNatClampNeg a1))).toNatClampNeg a2)) (upd (q_dc (s_db (s_da x (upd (q_da x) (q_dn x).toNatClampNeg a1)) (upd (q_db (s_da x (upd (q_da x) (q_dn x).toNatClampNeg a1))) (q_dn (s_da x (upd (q_da x) (q_dn x).toNatClampNeg a1))).toNatClampNeg a2))) (q_dn (s_db (s_da x (upd (q_da x) (q_dn x).toNatClampNeg a1)) (upd (q_db (s_da x (upd (q_da x) (q_dn x).toNatClampNeg a1))) (q_dn (s_da x (upd (q_da x) (q_dn x).toNatClampNeg a1))).toNatClampNeg a2))).toNatClampNeg a3)) (upd (q_dk (s_dc (s_db (s_da x (upd (q_da x) (q_dn x).toNatClampNeg a1)) (upd (q_db (s_da x (upd (q_da x) (q_dn x).toNatClampNeg a1))) (q_dn (s_da x (upd (q_da x) (q_dn x).toNatClampNeg a1))).toNatClampNeg a2)) (upd (q_dc (s_db (s_da x (upd (q_da x) (q_dn x).toNatClampNeg a1)) (upd (q_db (s_da x (upd (q_da x) (q_dn x).toNatClampNeg a1))) (q_dn (s_da x (upd (q_da x) (q_dn x).toNatClampNeg a1))).toNatClampNeg a2))) (q_dn (s_db (s_da x (upd (q_da x) (q_dn x).toNatClampNeg a1)) (upd (q_db (s_da x (upd (q_da x) (q_dn x).toNatClampNeg a1))) (q_dn (s_da x (upd (q_da x) (q_dn x).toNatClampNeg a1))).toNatClampNeg a2))).toNatClampNeg a3))) (q_dn (s_dc (s_db (s_da x (upd (q_da x) (q_dn x).toNatClampNeg a1)) (upd (q_db (s_da x (upd (q_da x) (q_dn x).toNatClampNeg a1))) (q_dn (s_da x (upd (q_da x) (q_dn x).toNatClampNeg a1))).toNatClampNeg a2)) (upd (q_dc (s_db (s_da x (upd (q_da x) (q_dn x).toNatClampNeg a1)) (upd (q_db (s_da x (upd (q_da x) (q_dn x).toNatClampNeg a1))) (q_dn (s_da x (upd (q_da x) (q_dn x).toNatClampNeg a1))).toNatClampNeg a2))) (q_dn (s_db (s_da x (upd (q_da x) (q_dn x).toNatClampNeg a1)) (upd (q_db (s_da x (upd (q_da x) (q_dn x).toNatClampNeg a1))) (q_dn (s_da x (upd (q_da x) (q_dn x).toNatClampNeg a1))).toNatClampNeg a2))).toNatClampNeg a3))).toNatClampNeg a4)) ((q_dn (s_dk (s_dc (s_db (s_da x (upd (q_da x) (q_dn x).toNatClampNeg a1)) (upd (q_db (s_da x (upd (q_da x) (q_dn x).toNatClampNeg a1))) (q_dn (s_da x (upd (q_da x) (q_dn x).toNatClampNeg a1))).toNatClampNeg a2)) (upd (q_dc (s_db (s_da x (upd (q_da x) (q_dn x).toNatClampNeg a1)) (upd (q_db (s_da x (upd (q_da x) (q_dn x).toNatClampNeg a1))) (q_dn (s_da x (upd (q_da x) (q_dn x).toNatClampNeg a1))).toNatClampNeg a2))) (q_dn (s_db (s_da x (upd (q_da x) (q_dn x).toNatClampNeg a1)) (upd (q_db (s_da x (upd (q_da x) (q_dn x).toNatClampNeg a1))) (q_dn (s_da x (upd (q_da x) (q_dn x).toNatClampNeg a1))).toNatClampNeg a2))).toNatClampNeg a3)) (upd (q_dk (s_dc (s_db (s_da x (upd (q_da x) (q_dn x).toNatClampNeg a1)) (upd (q_db (s_da x (upd (q_da x) (q_dn x).toNatClampNeg a1))) (q_dn (s_da x (upd (q_da x) (q_dn x).toNatClampNeg a1))).toNatClampNeg a2)) (upd (q_dc (s_db (s_da x (upd (q_da x) (q_dn x).toNatClampNeg a1)) (upd (q_db (s_da x (upd (q_da x) (q_dn x).toNatClampNeg a1))) (q_dn (s_da x (upd (q_da x) (q_dn x).toNatClampNeg a1))).toNatClampNeg a2))) (q_dn (s_db (s_da x (upd (q_da x) (q_dn x).toNatClampNeg a1)) (upd (q_db (s_da x (upd (q_da x) (q_dn x).toNatClampNeg a1))) (q_dn (s_da x (upd (q_da x) (q_dn x).toNatClampNeg a1))).toNatClampNeg a2))).toNatClampNeg a3))) (q_dn (s_dc (s_db (s_da x (upd (q_da x) (q_dn x).toNatClampNeg a1)) (upd (q_db (s_da x (upd (q_da x) (q_dn x).toNatClampNeg a1))) (q_dn (s_da x (upd (q_da x) (q_dn x).toNatClampNeg a1))).toNatClampNeg a2)) (upd (q_dc (s_db (s_da x (upd (q_da x) (q_dn x).toNatClampNeg a1)) (upd (q_db (s_da x (upd (q_da x) (q_dn x).toNatClampNeg a1))) (q_dn (s_da x (upd (q_da x) (q_dn x).toNatClampNeg a1))).toNatClampNeg a2))) (q_dn (s_db (s_da x (upd (q_da x) (q_dn x).toNatClampNeg a1)) (upd (q_db (s_da x (upd (q_da x) (q_dn x).toNatClampNeg a1))) (q_dn (s_da x (upd (q_da x) (q_dn x).toNatClampNeg a1))).toNatClampNeg a2))).toNatClampNeg a3))).toNatClampNeg a4))) + 1))) - 1) hx hb hr (fun t ht hW => ⟨by rw [hg], ⟨by rw [ht, hg]; exact hP, va_K.moved hW.alike hK, hN.warm hW⟩, hS.F ht⟩) hS.2.2 d_Doors_add_68)
  · refine lv_iconst (v := (-1)) hx hb d_Doors_add_9 (by decide) ?_
    have hg : g_Doors_add x a1 a2 a3 a4 = ((-1), x) := by unfold g_Doors_add; rw [if_neg c_1]
    exact W.toX (W.iret (v := (-1)) hx hb hr (fun t ht hW => ⟨by rw [hg], ⟨by rw [ht, hg]; exact hP, va_K.moved hW.alike hK, hN.warm hW⟩, hS.F ht⟩) hS.2.2 d_Doors_add_10)
def g_Det_add (x : ST) (a1 a2 a3 : Int32) : Int32 × ST := if (q_tc x) < 100 then ((q_tc (s_tc (s_tr (s_tn (s_tl x (upd (q_tl x) (q_tc x).toNatClampNeg a1)) (upd (q_tn (s_tl x (upd (q_tl x) (q_tc x).toNatClampNeg a1))) (q_tc (s_tl x (upd (q_tl x) (q_tc x).toNatClampNeg a1))).toNatClampNeg a2)) (upd (q_tr (s_tn (s_tl x (upd (q_tl x) (q_tc x).toNatClampNeg a1)) (upd (q_tn (s_tl x (upd (q_tl x) (q_tc x).toNatClampNeg a1))) (q_tc (s_tl x (upd (q_tl x) (q_tc x).toNatClampNeg a1))).toNatClampNeg a2))) (q_tc (s_tn (s_tl x (upd (q_tl x) (q_tc x).toNatClampNeg a1)) (upd (q_tn (s_tl x (upd (q_tl x) (q_tc x).toNatClampNeg a1))) (q_tc (s_tl x (upd (q_tl x) (q_tc x).toNatClampNeg a1))).toNatClampNeg a2))).toNatClampNeg a3)) ((q_tc (s_tr (s_tn (s_tl x (upd (q_tl x) (q_tc x).toNatClampNeg a1)) (upd (q_tn (s_tl x (upd (q_tl x) (q_tc x).toNatClampNeg a1))) (q_tc (s_tl x (upd (q_tl x) (q_tc x).toNatClampNeg a1))).toNatClampNeg a2)) (upd (q_tr (s_tn (s_tl x (upd (q_tl x) (q_tc x).toNatClampNeg a1)) (upd (q_tn (s_tl x (upd (q_tl x) (q_tc x).toNatClampNeg a1))) (q_tc (s_tl x (upd (q_tl x) (q_tc x).toNatClampNeg a1))).toNatClampNeg a2))) (q_tc (s_tn (s_tl x (upd (q_tl x) (q_tc x).toNatClampNeg a1)) (upd (q_tn (s_tl x (upd (q_tl x) (q_tc x).toNatClampNeg a1))) (q_tc (s_tl x (upd (q_tl x) (q_tc x).toNatClampNeg a1))).toNatClampNeg a2))).toNatClampNeg a3))) + 1))) - 1, s_tc (s_tr (s_tn (s_tl x (upd (q_tl x) (q_tc x).toNatClampNeg a1)) (upd (q_tn (s_tl x (upd (q_tl x) (q_tc x).toNatClampNeg a1))) (q_tc (s_tl x (upd (q_tl x) (q_tc x).toNatClampNeg a1))).toNatClampNeg a2)) (upd (q_tr (s_tn (s_tl x (upd (q_tl x) (q_tc x).toNatClampNeg a1)) (upd (q_tn (s_tl x (upd (q_tl x) (q_tc x).toNatClampNeg a1))) (q_tc (s_tl x (upd (q_tl x) (q_tc x).toNatClampNeg a1))).toNatClampNeg a2))) (q_tc (s_tn (s_tl x (upd (q_tl x) (q_tc x).toNatClampNeg a1)) (upd (q_tn (s_tl x (upd (q_tl x) (q_tc x).toNatClampNeg a1))) (q_tc (s_tl x (upd (q_tl x) (q_tc x).toNatClampNeg a1))).toNatClampNeg a2))).toNatClampNeg a3)) ((q_tc (s_tr (s_tn (s_tl x (upd (q_tl x) (q_tc x).toNatClampNeg a1)) (upd (q_tn (s_tl x (upd (q_tl x) (q_tc x).toNatClampNeg a1))) (q_tc (s_tl x (upd (q_tl x) (q_tc x).toNatClampNeg a1))).toNatClampNeg a2)) (upd (q_tr (s_tn (s_tl x (upd (q_tl x) (q_tc x).toNatClampNeg a1)) (upd (q_tn (s_tl x (upd (q_tl x) (q_tc x).toNatClampNeg a1))) (q_tc (s_tl x (upd (q_tl x) (q_tc x).toNatClampNeg a1))).toNatClampNeg a2))) (q_tc (s_tn (s_tl x (upd (q_tl x) (q_tc x).toNatClampNeg a1)) (upd (q_tn (s_tl x (upd (q_tl x) (q_tc x).toNatClampNeg a1))) (q_tc (s_tl x (upd (q_tl x) (q_tc x).toNatClampNeg a1))).toNatClampNeg a2))).toNatClampNeg a3))) + 1)) else ((-1), x)
set_option maxHeartbeats 4000000 in
set_option maxRecDepth 100000 in
theorem u_Det_add (l : Launch) (dC : Nat → ClassId) (dI : Nat → Nat → Nat) (cI cZ : ClassId) (ad : Nat → Nat) (hj : aInj 29 ad) (x : ST) (hI : CIn x) (sz : Nat) (a1 a2 a3 : Int32) : MX l y_Det_add (Cond.code y_Det_add b_Det_add 4 (some .int) :: BW) { frames := 0, cells := 0, slots := 0, locals := 0 } (PCZ sz (dC, dI) [(cI, .int), (cZ, .boolean)] (wC cI cZ ad x) [.ref (ad 6), .int a1, .int a2, .int a3]) (UQ (some (.int (g_Det_add x a1 a2 a3).1)) (WB (dC, dI) [(cI, .int), (cZ, .boolean)] (wC cI cZ ad (g_Det_add x a1 a2 a3).2)) (aC 29 ad sz)) 0 0 (aC 29 ad sz) := by
  refine MX.ofW (cc := b_Det_add) (maxL := 4) (ret := (some .int)) (by decide) rfl ?_
  intro p e s m args below meth c s₁ B hml hex hv
  obtain ⟨hsz, rfl, hP, hK, hN⟩ := hv
  subst hsz
  have hx := B.exec
  have hb := B.bytes
  have hr := B.returns
  have hts := atoms_spec (ws := Cond.code y_Det_add b_Det_add 4 (some .int) :: BW) B.pre
  have hbw : ∀ w ∈ BW, w.before ([.ref (ad 6), .int a1, .int a2, .int a3]).toArray s = true := fun w h => hts w (List.mem_cons_of_mem _ h)
  have hown : s.vm.findClass "PlanRows$Detectors" = some m.cls := findClass_of_methodNamed B.named
  have hlocks := B.notSynchronized
  have hDx : ∀ z, va_D (aC 29 ad s.heap.size) (wC cI cZ ad z) := fun z => w_D hj (wC_ad cI cZ ad z) _
  have hA : ∀ H : Heap, s.heap.size ≤ H.size → ∀ q, aC 29 ad H.size q → aC 29 ad s.heap.size q := fun H h => aC_le h
  generalize aC 29 ad s.heap.size = A at hDx hA ⊢
  have hD := hDx x
  have hS : va_S A s.heap s.heap [] := va_S.rf
  have hI0 := hI
  have hl := lv_entry ([.ref (ad 6), .int a1, .int a2, .int a3]) (n := 4) (Nat.le_of_ble_eq_true rfl)
  rw [lg_entry_eq]
  generalize (lg_sl ([.ref (ad 6), .int a1, .int a2, .int a3]) ++ List.replicate (4 - (lg_sl ([.ref (ad 6), .int a1, .int a2, .int a3])).length) Slot.unset).toArray = ls at hl ⊢
  obtain ⟨H, hH⟩ : ∃ H, H = s.heap := ⟨_, rfl⟩
  obtain ⟨locs, hlocs⟩ : ∃ locs : List Loc, locs = [] := ⟨_, rfl⟩
  have hP : va_P (dC, dI) clsA (wC cI cZ ad x) H := by rw [hH]; exact hP
  have hS : va_S A s.heap H locs := by rw [hH, hlocs]; exact hS
  rw [← hlocs]
  have hW0 : ∀ (R : Room) (Q : State → Prop) (g : JFrame), W p l e R s m ([.ref (ad 6), .int a1, .int a2, .int a3]).toArray below meth c H locs 0 0 Q g → W p l e R s m ([.ref (ad 6), .int a1, .int a2, .int a3]).toArray below meth c s.heap locs 0 0 Q g := fun R Q g h => by rw [← hH]; exact h
  refine hW0 _ _ _ ?_
  have hl : lv_has ls 4 [(0, .ref (ad 6)), (1, .int a1), (2, .int a2), (3, .int a3)] := hl
  refine lv_aload_n hx hb d_Det_add_0 rfl (lv_at hl 0 rfl) ?_
  refine va_get (D := (dC, dI)) (ci := 1) (v := .int (q_tc x)) (C := R_Det) (T := F_Det) (N := 4) hx hb hbw in_Det hown hK hP 6 rfl rfl 3 (by decide) (hbw _ w_139) (fun _ h9 => h9) rfl d_Det_add_1 ?_
  refine lv_bipush (v := 100) hx hb d_Det_add_4 (by decide) ?_
  refine lv_icmp_lt (tgt := 11) hx hb d_Det_add_6 (by decide) (fun c_1 => ?_) (fun c_1 => ?_)
  · refine lv_aload_n hx hb d_Det_add_11 rfl (lv_at hl 0 rfl) ?_
    refine va_get (D := (dC, dI)) (ci := 1) (v := .ref (ad 19)) (C := R_Det) (T := F_Det) (N := 4) hx hb hbw in_Det hown hK hP 6 rfl rfl 0 (by decide) (hbw _ w_136) (fun _ h9 => h9) rfl d_Det_add_12 ?_
    refine lv_aload_n hx hb d_Det_add_15 rfl (lv_at hl 0 rfl) ?_
    refine va_get (D := (dC, dI)) (ci := 1) (v := .int (q_tc x)) (C := R_Det) (T := F_Det) (N := 4) hx hb hbw in_Det hown hK hP 6 rfl rfl 3 (by decide) (hbw _ w_139) (fun _ h9 => h9) rfl d_Det_add_16 ?_
    refine lv_iload_n hx hb d_Det_add_19 rfl (lv_at hl 1 rfl) ?_
    refine va_iast hx hb hK hP hD hS 19 0 rfl rfl (ix_szl hI.2.2.1 c_1 rfl) d_Det_add_20 (fun H locs hP hD hS => ?_)
    rw [wC_s_tl] at hP hD
    refine lv_aload_n hx hb d_Det_add_21 rfl (lv_at hl 0 rfl) ?_
    refine va_get (D := (dC, dI)) (ci := 1) (v := .ref (ad 20)) (C := R_Det) (T := F_Det) (N := 4) hx hb hbw in_Det hown hK hP 6 rfl rfl 1 (by decide) (hbw _ w_137) (fun _ h9 => h9) rfl d_Det_add_22 ?_
    refine lv_aload_n hx hb d_Det_add_25 rfl (lv_at hl 0 rfl) ?_
    refine va_get (D := (dC, dI)) (ci := 1) (v := .int (q_tc (s_tl x (upd (q_tl x) (q_tc x).toNatClampNeg a1)))) (C := R_Det) (T := F_Det) (N := 4) hx hb hbw in_Det hown hK hP 6 rfl rfl 3 (by decide) (hbw _ w_139) (fun _ h9 => h9) rfl d_Det_add_26 ?_
    refine lv_iload_n hx hb d_Det_add_29 rfl (lv_at hl 2 rfl) ?_
    refine va_iast hx hb hK hP hD hS 20 0 rfl rfl (ix_szl hI.2.2.1 c_1 rfl) d_Det_add_30 (fun H locs hP hD hS => ?_)
    rw [wC_s_tn] at hP hD
    refine lv_aload_n hx hb d_Det_add_31 rfl (lv_at hl 0 rfl) ?_
    refine va_get (D := (dC, dI)) (ci := 1) (v := .ref (ad 21)) (C := R_Det) (T := F_Det) (N := 4) hx hb hbw in_Det hown hK hP 6 rfl rfl 2 (by decide) (hbw _ w_138) (fun _ h9 => h9) rfl d_Det_add_32 ?_
    refine lv_aload_n hx hb d_Det_add_35 rfl (lv_at hl 0 rfl) ?_
    refine va_get (D := (dC, dI)) (ci := 1) (v := .int (q_tc (s_tn (s_tl x (upd (q_tl x) (q_tc x).toNatClampNeg a1)) (upd (q_tn (s_tl x (upd (q_tl x) (q_tc x).toNatClampNeg a1))) (q_tc (s_tl x (upd (q_tl x) (q_tc x).toNatClampNeg a1))).toNatClampNeg a2)))) (C := R_Det) (T := F_Det) (N := 4) hx hb hbw in_Det hown hK hP 6 rfl rfl 3 (by decide) (hbw _ w_139) (fun _ h9 => h9) rfl d_Det_add_36 ?_
    refine lv_iload_n hx hb d_Det_add_39 rfl (lv_at hl 3 rfl) ?_
    refine va_iast hx hb hK hP hD hS 21 0 rfl rfl (ix_szl hI.2.2.1 c_1 rfl) d_Det_add_40 (fun H locs hP hD hS => ?_)
    rw [wC_s_tr] at hP hD
    refine lv_aload_n hx hb d_Det_add_41 rfl (lv_at hl 0 rfl) ?_
    refine lv_dup hx hb d_Det_add_42 rfl ?_
    refine va_get (D := (dC, dI)) (ci := 1) (v := .int (q_tc (s_tr (s_tn (s_tl x (upd (q_tl x) (q_tc x).toNatClampNeg a1)) (upd (q_tn (s_tl x (upd (q_tl x) (q_tc x).toNatClampNeg a1))) (q_tc (s_tl x (upd (q_tl x) (q_tc x).toNatClampNeg a1))).toNatClampNeg a2)) (upd (q_tr (s_tn (s_tl x (upd (q_tl x) (q_tc x).toNatClampNeg a1)) (upd (q_tn (s_tl x (upd (q_tl x) (q_tc x).toNatClampNeg a1))) (q_tc (s_tl x (upd (q_tl x) (q_tc x).toNatClampNeg a1))).toNatClampNeg a2))) (q_tc (s_tn (s_tl x (upd (q_tl x) (q_tc x).toNatClampNeg a1)) (upd (q_tn (s_tl x (upd (q_tl x) (q_tc x).toNatClampNeg a1))) (q_tc (s_tl x (upd (q_tl x) (q_tc x).toNatClampNeg a1))).toNatClampNeg a2))).toNatClampNeg a3)))) (C := R_Det) (T := F_Det) (N := 4) hx hb hbw in_Det hown hK hP 6 rfl rfl 3 (by decide) (hbw _ w_139) (fun _ h9 => h9) rfl d_Det_add_43 ?_
    refine lv_iconst (v := 1) hx hb d_Det_add_46 (by decide) ?_
    refine lv_iadd hx hb d_Det_add_47 ?_
    refine va_put (D := (dC, dI)) (ci := 1) (v := .int ((q_tc (s_tr (s_tn (s_tl x (upd (q_tl x) (q_tc x).toNatClampNeg a1)) (upd (q_tn (s_tl x (upd (q_tl x) (q_tc x).toNatClampNeg a1))) (q_tc (s_tl x (upd (q_tl x) (q_tc x).toNatClampNeg a1))).toNatClampNeg a2)) (upd (q_tr (s_tn (s_tl x (upd (q_tl x) (q_tc x).toNatClampNeg a1)) (upd (q_tn (s_tl x (upd (q_tl x) (q_tc x).toNatClampNeg a1))) (q_tc (s_tl x (upd (q_tl x) (q_tc x).toNatClampNeg a1))).toNatClampNeg a2))) (q_tc (s_tn (s_tl x (upd (q_tl x) (q_tc x).toNatClampNeg a1)) (upd (q_tn (s_tl x (upd (q_tl x) (q_tc x).toNatClampNeg a1))) (q_tc (s_tl x (upd (q_tl x) (q_tc x).toNatClampNeg a1))).toNatClampNeg a2))).toNatClampNeg a3))) + 1)) (ty := .int) (C := R_Det) (T := F_Det) (N := 4) hx hb hbw in_Det t_Det t_Det_ok n_Det hown hK hP hD hS 6 rfl rfl 3 (by decide) (hbw _ w_139) (fun _ h9 => h9) rfl (by decide +kernel) rfl rfl (Nat.le_of_ble_eq_true rfl) d_Det_add_48 (fun H locs hP hD hS => ?_)
    rw [wC_s_tc] at hP hD
    refine lv_aload_n hx hb d_Det_add_51 rfl (lv_at hl 0 rfl) ?_
    refine va_get (D := (dC, dI)) (ci := 1) (v := .int (q_tc (s_tc (s_tr (s_tn (s_tl x (upd (q_tl x) (q_tc x).toNatClampNeg a1)) (upd (q_tn (s_tl x (upd (q_tl x) (q_tc x).toNatClampNeg a1))) (q_tc (s_tl x (upd (q_tl x) (q_tc x).toNatClampNeg a1))).toNatClampNeg a2)) (upd (q_tr (s_tn (s_tl x (upd (q_tl x) (q_tc x).toNatClampNeg a1)) (upd (q_tn (s_tl x (upd (q_tl x) (q_tc x).toNatClampNeg a1))) (q_tc (s_tl x (upd (q_tl x) (q_tc x).toNatClampNeg a1))).toNatClampNeg a2))) (q_tc (s_tn (s_tl x (upd (q_tl x) (q_tc x).toNatClampNeg a1)) (upd (q_tn (s_tl x (upd (q_tl x) (q_tc x).toNatClampNeg a1))) (q_tc (s_tl x (upd (q_tl x) (q_tc x).toNatClampNeg a1))).toNatClampNeg a2))).toNatClampNeg a3)) ((q_tc (s_tr (s_tn (s_tl x (upd (q_tl x) (q_tc x).toNatClampNeg a1)) (upd (q_tn (s_tl x (upd (q_tl x) (q_tc x).toNatClampNeg a1))) (q_tc (s_tl x (upd (q_tl x) (q_tc x).toNatClampNeg a1))).toNatClampNeg a2)) (upd (q_tr (s_tn (s_tl x (upd (q_tl x) (q_tc x).toNatClampNeg a1)) (upd (q_tn (s_tl x (upd (q_tl x) (q_tc x).toNatClampNeg a1))) (q_tc (s_tl x (upd (q_tl x) (q_tc x).toNatClampNeg a1))).toNatClampNeg a2))) (q_tc (s_tn (s_tl x (upd (q_tl x) (q_tc x).toNatClampNeg a1)) (upd (q_tn (s_tl x (upd (q_tl x) (q_tc x).toNatClampNeg a1))) (q_tc (s_tl x (upd (q_tl x) (q_tc x).toNatClampNeg a1))).toNatClampNeg a2))).toNatClampNeg a3))) + 1)))) (C := R_Det) (T := F_Det) (N := 4) hx hb hbw in_Det hown hK hP 6 rfl rfl 3 (by decide) (hbw _ w_139) (fun _ h9 => h9) rfl d_Det_add_52 ?_
    refine lv_iconst (v := 1) hx hb d_Det_add_55 (by decide) ?_
    refine lv_isub hx hb d_Det_add_56 ?_
    have hg : g_Det_add x a1 a2 a3 = ((q_tc (s_tc (s_tr (s_tn (s_tl x (upd (q_tl x) (q_tc x).toNatClampNeg a1)) (upd (q_tn (s_tl x (upd (q_tl x) (q_tc x).toNatClampNeg a1))) (q_tc (s_tl x (upd (q_tl x) (q_tc x).toNatClampNeg a1))).toNatClampNeg a2)) (upd (q_tr (s_tn (s_tl x (upd (q_tl x) (q_tc x).toNatClampNeg a1)) (upd (q_tn (s_tl x (upd (q_tl x) (q_tc x).toNatClampNeg a1))) (q_tc (s_tl x (upd (q_tl x) (q_tc x).toNatClampNeg a1))).toNatClampNeg a2))) (q_tc (s_tn (s_tl x (upd (q_tl x) (q_tc x).toNatClampNeg a1)) (upd (q_tn (s_tl x (upd (q_tl x) (q_tc x).toNatClampNeg a1))) (q_tc (s_tl x (upd (q_tl x) (q_tc x).toNatClampNeg a1))).toNatClampNeg a2))).toNatClampNeg a3)) ((q_tc (s_tr (s_tn (s_tl x (upd (q_tl x) (q_tc x).toNatClampNeg a1)) (upd (q_tn (s_tl x (upd (q_tl x) (q_tc x).toNatClampNeg a1))) (q_tc (s_tl x (upd (q_tl x) (q_tc x).toNatClampNeg a1))).toNatClampNeg a2)) (upd (q_tr (s_tn (s_tl x (upd (q_tl x) (q_tc x).toNatClampNeg a1)) (upd (q_tn (s_tl x (upd (q_tl x) (q_tc x).toNatClampNeg a1))) (q_tc (s_tl x (upd (q_tl x) (q_tc x).toNatClampNeg a1))).toNatClampNeg a2))) (q_tc (s_tn (s_tl x (upd (q_tl x) (q_tc x).toNatClampNeg a1)) (upd (q_tn (s_tl x (upd (q_tl x) (q_tc x).toNatClampNeg a1))) (q_tc (s_tl x (upd (q_tl x) (q_tc x).toNatClampNeg a1))).toNatClampNeg a2))).toNatClampNeg a3))) + 1))) - 1, s_tc (s_tr (s_tn (s_tl x (upd (q_tl x) (q_tc x).toNatClampNeg a1)) (upd (q_tn (s_tl x (upd (q_tl x) (q_tc x).toNatClampNeg a1))) (q_tc (s_tl x (upd (q_tl x) (q_tc x).toNatClampNeg a1))).toNatClampNeg a2)) (upd (q_tr (s_tn (s_tl x (upd (q_tl x) (q_tc x).toNatClampNeg a1)) (upd (q_tn (s_tl x (upd (q_tl x) (q_tc x).toNatClampNeg a1))) (q_tc (s_tl x (upd (q_tl x) (q_tc x).toNatClampNeg a1))).toNatClampNeg a2))) (q_tc (s_tn (s_tl x (upd (q_tl x) (q_tc x).toNatClampNeg a1)) (upd (q_tn (s_tl x (upd (q_tl x) (q_tc x).toNatClampNeg a1))) (q_tc (s_tl x (upd (q_tl x) (q_tc x).toNatClampNeg a1))).toNatClampNeg a2))).toNatClampNeg a3)) ((q_tc (s_tr (s_tn (s_tl x (upd (q_tl x) (q_tc x).toNatClampNeg a1)) (upd (q_tn (s_tl x (upd (q_tl x) (q_tc x).toNatClampNeg a1))) (q_tc (s_tl x (upd (q_tl x) (q_tc x).toNatClampNeg a1))).toNatClampNeg a2)) (upd (q_tr (s_tn (s_tl x (upd (q_tl x) (q_tc x).toNatClampNeg a1)) (upd (q_tn (s_tl x (upd (q_tl x) (q_tc x).toNatClampNeg a1))) (q_tc (s_tl x (upd (q_tl x) (q_tc x).toNatClampNeg a1))).toNatClampNeg a2))) (q_tc (s_tn (s_tl x (upd (q_tl x) (q_tc x).toNatClampNeg a1)) (upd (q_tn (s_tl x (upd (q_tl x) (q_tc x).toNatClampNeg a1))) (q_tc (s_tl x (upd (q_tl x) (q_tc x).toNatClampNeg a1))).toNatClampNeg a2))).toNatClampNeg a3))) + 1)) := by unfold g_Det_add; rw [if_pos c_1]
    exact W.toX (W.iret (v := (q_tc (s_tc (s_tr (s_tn (s_tl x (upd (q_tl x) (q_tc x).toNatClampNeg a1)) (upd (q_tn (s_tl x (upd (q_tl x) (q_tc x).toNatClampNeg a1))) (q_tc (s_tl x (upd (q_tl x) (q_tc x).toNatClampNeg a1))).toNatClampNeg a2)) (upd (q_tr (s_tn (s_tl x (upd (q_tl x) (q_tc x).toNatClampNeg a1)) (upd (q_tn (s_tl x (upd (q_tl x) (q_tc x).toNatClampNeg a1))) (q_tc (s_tl x (upd (q_tl x) (q_tc x).toNatClampNeg a1))).toNatClampNeg a2))) (q_tc (s_tn (s_tl x (upd (q_tl x) (q_tc x).toNatClampNeg a1)) (upd (q_tn (s_tl x (upd (q_tl x) (q_tc x).toNatClampNeg a1))) (q_tc (s_tl x (upd (q_tl x) (q_tc x).toNatClampNeg a1))).toNatClampNeg a2))).toNatClampNeg a3)) ((q_tc (s_tr (s_tn (s_tl x (upd (q_tl x) (q_tc x).toNatClampNeg a1)) (upd (q_tn (s_tl x (upd (q_tl x) (q_tc x).toNatClampNeg a1))) (q_tc (s_tl x (upd (q_tl x) (q_tc x).toNatClampNeg a1))).toNatClampNeg a2)) (upd (q_tr (s_tn (s_tl x (upd (q_tl x) (q_tc x).toNatClampNeg a1)) (upd (q_tn (s_tl x (upd (q_tl x) (q_tc x).toNatClampNeg a1))) (q_tc (s_tl x (upd (q_tl x) (q_tc x).toNatClampNeg a1))).toNatClampNeg a2))) (q_tc (s_tn (s_tl x (upd (q_tl x) (q_tc x).toNatClampNeg a1)) (upd (q_tn (s_tl x (upd (q_tl x) (q_tc x).toNatClampNeg a1))) (q_tc (s_tl x (upd (q_tl x) (q_tc x).toNatClampNeg a1))).toNatClampNeg a2))).toNatClampNeg a3))) + 1))) - 1) hx hb hr (fun t ht hW => ⟨by rw [hg], ⟨by rw [ht, hg]; exact hP, va_K.moved hW.alike hK, hN.warm hW⟩, hS.F ht⟩) hS.2.2 d_Det_add_57)
  · refine lv_iconst (v := (-1)) hx hb d_Det_add_9 (by decide) ?_
    have hg : g_Det_add x a1 a2 a3 = ((-1), x) := by unfold g_Det_add; rw [if_neg c_1]
    exact W.toX (W.iret (v := (-1)) hx hb hr (fun t ht hW => ⟨by rw [hg], ⟨by rw [ht, hg]; exact hP, va_K.moved hW.alike hK, hN.warm hW⟩, hS.F ht⟩) hS.2.2 d_Det_add_10)
def g_Crowd_add (x : ST) (a1 a2 a3 a4 : Int32) : Int32 × ST := if (q_pc x) < 60 then ((q_pc (s_pc (s_pn (s_pb (s_pa (s_pf x (upd (q_pf x) (q_pc x).toNatClampNeg a1)) (upd (q_pa (s_pf x (upd (q_pf x) (q_pc x).toNatClampNeg a1))) (q_pc (s_pf x (upd (q_pf x) (q_pc x).toNatClampNeg a1))).toNatClampNeg a2)) (upd (q_pb (s_pa (s_pf x (upd (q_pf x) (q_pc x).toNatClampNeg a1)) (upd (q_pa (s_pf x (upd (q_pf x) (q_pc x).toNatClampNeg a1))) (q_pc (s_pf x (upd (q_pf x) (q_pc x).toNatClampNeg a1))).toNatClampNeg a2))) (q_pc (s_pa (s_pf x (upd (q_pf x) (q_pc x).toNatClampNeg a1)) (upd (q_pa (s_pf x (upd (q_pf x) (q_pc x).toNatClampNeg a1))) (q_pc (s_pf x (upd (q_pf x) (q_pc x).toNatClampNeg a1))).toNatClampNeg a2))).toNatClampNeg a3)) (upd (q_pn (s_pb (s_pa (s_pf x (upd (q_pf x) (q_pc x).toNatClampNeg a1)) (upd (q_pa (s_pf x (upd (q_pf x) (q_pc x).toNatClampNeg a1))) (q_pc (s_pf x (upd (q_pf x) (q_pc x).toNatClampNeg a1))).toNatClampNeg a2)) (upd (q_pb (s_pa (s_pf x (upd (q_pf x) (q_pc x).toNatClampNeg a1)) (upd (q_pa (s_pf x (upd (q_pf x) (q_pc x).toNatClampNeg a1))) (q_pc (s_pf x (upd (q_pf x) (q_pc x).toNatClampNeg a1))).toNatClampNeg a2))) (q_pc (s_pa (s_pf x (upd (q_pf x) (q_pc x).toNatClampNeg a1)) (upd (q_pa (s_pf x (upd (q_pf x) (q_pc x).toNatClampNeg a1))) (q_pc (s_pf x (upd (q_pf x) (q_pc x).toNatClampNeg a1))).toNatClampNeg a2))).toNatClampNeg a3))) (q_pc (s_pb (s_pa (s_pf x (upd (q_pf x) (q_pc x).toNatClampNeg a1)) (upd (q_pa (s_pf x (upd (q_pf x) (q_pc x).toNatClampNeg a1))) (q_pc (s_pf x (upd (q_pf x) (q_pc x).toNatClampNeg a1))).toNatClampNeg a2)) (upd (q_pb (s_pa (s_pf x (upd (q_pf x) (q_pc x).toNatClampNeg a1)) (upd (q_pa (s_pf x (upd (q_pf x) (q_pc x).toNatClampNeg a1))) (q_pc (s_pf x (upd (q_pf x) (q_pc x).toNatClampNeg a1))).toNatClampNeg a2))) (q_pc (s_pa (s_pf x (upd (q_pf x) (q_pc x).toNatClampNeg a1)) (upd (q_pa (s_pf x (upd (q_pf x) (q_pc x).toNatClampNeg a1))) (q_pc (s_pf x (upd (q_pf x) (q_pc x).toNatClampNeg a1))).toNatClampNeg a2))).toNatClampNeg a3))).toNatClampNeg a4)) ((q_pc (s_pn (s_pb (s_pa (s_pf x (upd (q_pf x) (q_pc x).toNatClampNeg a1)) (upd (q_pa (s_pf x (upd (q_pf x) (q_pc x).toNatClampNeg a1))) (q_pc (s_pf x (upd (q_pf x) (q_pc x).toNatClampNeg a1))).toNatClampNeg a2)) (upd (q_pb (s_pa (s_pf x (upd (q_pf x) (q_pc x).toNatClampNeg a1)) (upd (q_pa (s_pf x (upd (q_pf x) (q_pc x).toNatClampNeg a1))) (q_pc (s_pf x (upd (q_pf x) (q_pc x).toNatClampNeg a1))).toNatClampNeg a2))) (q_pc (s_pa (s_pf x (upd (q_pf x) (q_pc x).toNatClampNeg a1)) (upd (q_pa (s_pf x (upd (q_pf x) (q_pc x).toNatClampNeg a1))) (q_pc (s_pf x (upd (q_pf x) (q_pc x).toNatClampNeg a1))).toNatClampNeg a2))).toNatClampNeg a3)) (upd (q_pn (s_pb (s_pa (s_pf x (upd (q_pf x) (q_pc x).toNatClampNeg a1)) (upd (q_pa (s_pf x (upd (q_pf x) (q_pc x).toNatClampNeg a1))) (q_pc (s_pf x (upd (q_pf x) (q_pc x).toNatClampNeg a1))).toNatClampNeg a2)) (upd (q_pb (s_pa (s_pf x (upd (q_pf x) (q_pc x).toNatClampNeg a1)) (upd (q_pa (s_pf x (upd (q_pf x) (q_pc x).toNatClampNeg a1))) (q_pc (s_pf x (upd (q_pf x) (q_pc x).toNatClampNeg a1))).toNatClampNeg a2))) (q_pc (s_pa (s_pf x (upd (q_pf x) (q_pc x).toNatClampNeg a1)) (upd (q_pa (s_pf x (upd (q_pf x) (q_pc x).toNatClampNeg a1))) (q_pc (s_pf x (upd (q_pf x) (q_pc x).toNatClampNeg a1))).toNatClampNeg a2))).toNatClampNeg a3))) (q_pc (s_pb (s_pa (s_pf x (upd (q_pf x) (q_pc x).toNatClampNeg a1)) (upd (q_pa (s_pf x (upd (q_pf x) (q_pc x).toNatClampNeg a1))) (q_pc (s_pf x (upd (q_pf x) (q_pc x).toNatClampNeg a1))).toNatClampNeg a2)) (upd (q_pb (s_pa (s_pf x (upd (q_pf x) (q_pc x).toNatClampNeg a1)) (upd (q_pa (s_pf x (upd (q_pf x) (q_pc x).toNatClampNeg a1))) (q_pc (s_pf x (upd (q_pf x) (q_pc x).toNatClampNeg a1))).toNatClampNeg a2))) (q_pc (s_pa (s_pf x (upd (q_pf x) (q_pc x).toNatClampNeg a1)) (upd (q_pa (s_pf x (upd (q_pf x) (q_pc x).toNatClampNeg a1))) (q_pc (s_pf x (upd (q_pf x) (q_pc x).toNatClampNeg a1))).toNatClampNeg a2))).toNatClampNeg a3))).toNatClampNeg a4))) + 1))) - 1, s_pc (s_pn (s_pb (s_pa (s_pf x (upd (q_pf x) (q_pc x).toNatClampNeg a1)) (upd (q_pa (s_pf x (upd (q_pf x) (q_pc x).toNatClampNeg a1))) (q_pc (s_pf x (upd (q_pf x) (q_pc x).toNatClampNeg a1))).toNatClampNeg a2)) (upd (q_pb (s_pa (s_pf x (upd (q_pf x) (q_pc x).toNatClampNeg a1)) (upd (q_pa (s_pf x (upd (q_pf x) (q_pc x).toNatClampNeg a1))) (q_pc (s_pf x (upd (q_pf x) (q_pc x).toNatClampNeg a1))).toNatClampNeg a2))) (q_pc (s_pa (s_pf x (upd (q_pf x) (q_pc x).toNatClampNeg a1)) (upd (q_pa (s_pf x (upd (q_pf x) (q_pc x).toNatClampNeg a1))) (q_pc (s_pf x (upd (q_pf x) (q_pc x).toNatClampNeg a1))).toNatClampNeg a2))).toNatClampNeg a3)) (upd (q_pn (s_pb (s_pa (s_pf x (upd (q_pf x) (q_pc x).toNatClampNeg a1)) (upd (q_pa (s_pf x (upd (q_pf x) (q_pc x).toNatClampNeg a1))) (q_pc (s_pf x (upd (q_pf x) (q_pc x).toNatClampNeg a1))).toNatClampNeg a2)) (upd (q_pb (s_pa (s_pf x (upd (q_pf x) (q_pc x).toNatClampNeg a1)) (upd (q_pa (s_pf x (upd (q_pf x) (q_pc x).toNatClampNeg a1))) (q_pc (s_pf x (upd (q_pf x) (q_pc x).toNatClampNeg a1))).toNatClampNeg a2))) (q_pc (s_pa (s_pf x (upd (q_pf x) (q_pc x).toNatClampNeg a1)) (upd (q_pa (s_pf x (upd (q_pf x) (q_pc x).toNatClampNeg a1))) (q_pc (s_pf x (upd (q_pf x) (q_pc x).toNatClampNeg a1))).toNatClampNeg a2))).toNatClampNeg a3))) (q_pc (s_pb (s_pa (s_pf x (upd (q_pf x) (q_pc x).toNatClampNeg a1)) (upd (q_pa (s_pf x (upd (q_pf x) (q_pc x).toNatClampNeg a1))) (q_pc (s_pf x (upd (q_pf x) (q_pc x).toNatClampNeg a1))).toNatClampNeg a2)) (upd (q_pb (s_pa (s_pf x (upd (q_pf x) (q_pc x).toNatClampNeg a1)) (upd (q_pa (s_pf x (upd (q_pf x) (q_pc x).toNatClampNeg a1))) (q_pc (s_pf x (upd (q_pf x) (q_pc x).toNatClampNeg a1))).toNatClampNeg a2))) (q_pc (s_pa (s_pf x (upd (q_pf x) (q_pc x).toNatClampNeg a1)) (upd (q_pa (s_pf x (upd (q_pf x) (q_pc x).toNatClampNeg a1))) (q_pc (s_pf x (upd (q_pf x) (q_pc x).toNatClampNeg a1))).toNatClampNeg a2))).toNatClampNeg a3))).toNatClampNeg a4)) ((q_pc (s_pn (s_pb (s_pa (s_pf x (upd (q_pf x) (q_pc x).toNatClampNeg a1)) (upd (q_pa (s_pf x (upd (q_pf x) (q_pc x).toNatClampNeg a1))) (q_pc (s_pf x (upd (q_pf x) (q_pc x).toNatClampNeg a1))).toNatClampNeg a2)) (upd (q_pb (s_pa (s_pf x (upd (q_pf x) (q_pc x).toNatClampNeg a1)) (upd (q_pa (s_pf x (upd (q_pf x) (q_pc x).toNatClampNeg a1))) (q_pc (s_pf x (upd (q_pf x) (q_pc x).toNatClampNeg a1))).toNatClampNeg a2))) (q_pc (s_pa (s_pf x (upd (q_pf x) (q_pc x).toNatClampNeg a1)) (upd (q_pa (s_pf x (upd (q_pf x) (q_pc x).toNatClampNeg a1))) (q_pc (s_pf x (upd (q_pf x) (q_pc x).toNatClampNeg a1))).toNatClampNeg a2))).toNatClampNeg a3)) (upd (q_pn (s_pb (s_pa (s_pf x (upd (q_pf x) (q_pc x).toNatClampNeg a1)) (upd (q_pa (s_pf x (upd (q_pf x) (q_pc x).toNatClampNeg a1))) (q_pc (s_pf x (upd (q_pf x) (q_pc x).toNatClampNeg a1))).toNatClampNeg a2)) (upd (q_pb (s_pa (s_pf x (upd (q_pf x) (q_pc x).toNatClampNeg a1)) (upd (q_pa (s_pf x (upd (q_pf x) (q_pc x).toNatClampNeg a1))) (q_pc (s_pf x (upd (q_pf x) (q_pc x).toNatClampNeg a1))).toNatClampNeg a2))) (q_pc (s_pa (s_pf x (upd (q_pf x) (q_pc x).toNatClampNeg a1)) (upd (q_pa (s_pf x (upd (q_pf x) (q_pc x).toNatClampNeg a1))) (q_pc (s_pf x (upd (q_pf x) (q_pc x).toNatClampNeg a1))).toNatClampNeg a2))).toNatClampNeg a3))) (q_pc (s_pb (s_pa (s_pf x (upd (q_pf x) (q_pc x).toNatClampNeg a1)) (upd (q_pa (s_pf x (upd (q_pf x) (q_pc x).toNatClampNeg a1))) (q_pc (s_pf x (upd (q_pf x) (q_pc x).toNatClampNeg a1))).toNatClampNeg a2)) (upd (q_pb (s_pa (s_pf x (upd (q_pf x) (q_pc x).toNatClampNeg a1)) (upd (q_pa (s_pf x (upd (q_pf x) (q_pc x).toNatClampNeg a1))) (q_pc (s_pf x (upd (q_pf x) (q_pc x).toNatClampNeg a1))).toNatClampNeg a2))) (q_pc (s_pa (s_pf x (upd (q_pf x) (q_pc x).toNatClampNeg a1)) (upd (q_pa (s_pf x (upd (q_pf x) (q_pc x).toNatClampNeg a1))) (q_pc (s_pf x (upd (q_pf x) (q_pc x).toNatClampNeg a1))).toNatClampNeg a2))).toNatClampNeg a3))).toNatClampNeg a4))) + 1)) else ((-1), x)
set_option maxHeartbeats 4000000 in
set_option maxRecDepth 100000 in
theorem u_Crowd_add (l : Launch) (dC : Nat → ClassId) (dI : Nat → Nat → Nat) (cI cZ : ClassId) (ad : Nat → Nat) (hj : aInj 29 ad) (x : ST) (hI : CIn x) (sz : Nat) (a1 a2 a3 a4 : Int32) : MX l y_Crowd_add (Cond.code y_Crowd_add b_Crowd_add 5 (some .int) :: BW) { frames := 0, cells := 0, slots := 0, locals := 0 } (PCZ sz (dC, dI) [(cI, .int), (cZ, .boolean)] (wC cI cZ ad x) [.ref (ad 7), .int a1, .int a2, .int a3, .int a4]) (UQ (some (.int (g_Crowd_add x a1 a2 a3 a4).1)) (WB (dC, dI) [(cI, .int), (cZ, .boolean)] (wC cI cZ ad (g_Crowd_add x a1 a2 a3 a4).2)) (aC 29 ad sz)) 0 0 (aC 29 ad sz) := by
  refine MX.ofW (cc := b_Crowd_add) (maxL := 5) (ret := (some .int)) (by decide) rfl ?_
  intro p e s m args below meth c s₁ B hml hex hv
  obtain ⟨hsz, rfl, hP, hK, hN⟩ := hv
  subst hsz
  have hx := B.exec
  have hb := B.bytes
  have hr := B.returns
  have hts := atoms_spec (ws := Cond.code y_Crowd_add b_Crowd_add 5 (some .int) :: BW) B.pre
  have hbw : ∀ w ∈ BW, w.before ([.ref (ad 7), .int a1, .int a2, .int a3, .int a4]).toArray s = true := fun w h => hts w (List.mem_cons_of_mem _ h)
  have hown : s.vm.findClass "PlanRows$Crowd" = some m.cls := findClass_of_methodNamed B.named
  have hlocks := B.notSynchronized
  have hDx : ∀ z, va_D (aC 29 ad s.heap.size) (wC cI cZ ad z) := fun z => w_D hj (wC_ad cI cZ ad z) _
  have hA : ∀ H : Heap, s.heap.size ≤ H.size → ∀ q, aC 29 ad H.size q → aC 29 ad s.heap.size q := fun H h => aC_le h
  generalize aC 29 ad s.heap.size = A at hDx hA ⊢
  have hD := hDx x
  have hS : va_S A s.heap s.heap [] := va_S.rf
  have hI0 := hI
  have hl := lv_entry ([.ref (ad 7), .int a1, .int a2, .int a3, .int a4]) (n := 5) (Nat.le_of_ble_eq_true rfl)
  rw [lg_entry_eq]
  generalize (lg_sl ([.ref (ad 7), .int a1, .int a2, .int a3, .int a4]) ++ List.replicate (5 - (lg_sl ([.ref (ad 7), .int a1, .int a2, .int a3, .int a4])).length) Slot.unset).toArray = ls at hl ⊢
  obtain ⟨H, hH⟩ : ∃ H, H = s.heap := ⟨_, rfl⟩
  obtain ⟨locs, hlocs⟩ : ∃ locs : List Loc, locs = [] := ⟨_, rfl⟩
  have hP : va_P (dC, dI) clsA (wC cI cZ ad x) H := by rw [hH]; exact hP
  have hS : va_S A s.heap H locs := by rw [hH, hlocs]; exact hS
  rw [← hlocs]
  have hW0 : ∀ (R : Room) (Q : State → Prop) (g : JFrame), W p l e R s m ([.ref (ad 7), .int a1, .int a2, .int a3, .int a4]).toArray below meth c H locs 0 0 Q g → W p l e R s m ([.ref (ad 7), .int a1, .int a2, .int a3, .int a4]).toArray below meth c s.heap locs 0 0 Q g := fun R Q g h => by rw [← hH]; exact h
  refine hW0 _ _ _ ?_
  have hl : lv_has ls 5 [(0, .ref (ad 7)), (1, .int a1), (2, .int a2), (3, .int a3), (4, .int a4)] := hl
  refine lv_aload_n hx hb d_Crowd_add_0 rfl (lv_at hl 0 rfl) ?_
  refine va_get (D := (dC, dI)) (ci := 0) (v := .int (q_pc x)) (C := R_Crowd) (T := F_Crowd) (N := 5) hx hb hbw in_Crowd hown hK hP 7 rfl rfl 4 (by decide) (hbw _ w_160) (fun _ h9 => h9) rfl d_Crowd_add_1 ?_
  refine lv_bipush (v := 60) hx hb d_Crowd_add_4 (by decide) ?_
  refine lv_icmp_lt (tgt := 11) hx hb d_Crowd_add_6 (by decide) (fun c_1 => ?_) (fun c_1 => ?_)
  · refine lv_aload_n hx hb d_Crowd_add_11 rfl (lv_at hl 0 rfl) ?_
    refine va_get (D := (dC, dI)) (ci := 0) (v := .ref (ad 22)) (C := R_Crowd) (T := F_Crowd) (N := 5) hx hb hbw in_Crowd hown hK hP 7 rfl rfl 0 (by decide) (hbw _ w_156) (fun _ h9 => h9) rfl d_Crowd_add_12 ?_
    refine lv_aload_n hx hb d_Crowd_add_15 rfl (lv_at hl 0 rfl) ?_
    refine va_get (D := (dC, dI)) (ci := 0) (v := .int (q_pc x)) (C := R_Crowd) (T := F_Crowd) (N := 5) hx hb hbw in_Crowd hown hK hP 7 rfl rfl 4 (by decide) (hbw _ w_160) (fun _ h9 => h9) rfl d_Crowd_add_16 ?_
    refine lv_iload_n hx hb d_Crowd_add_19 rfl (lv_at hl 1 rfl) ?_
    refine va_iast hx hb hK hP hD hS 22 0 rfl rfl (ix_szl hI.2.2.2.1 c_1 rfl) d_Crowd_add_20 (fun H locs hP hD hS => ?_)
    rw [wC_s_pf] at hP hD
    refine lv_aload_n hx hb d_Crowd_add_21 rfl (lv_at hl 0 rfl) ?_
    refine va_get (D := (dC, dI)) (ci := 0) (v := .ref (ad 23)) (C := R_Crowd) (T := F_Crowd) (N := 5) hx hb hbw in_Crowd hown hK hP 7 rfl rfl 1 (by decide) (hbw _ w_157) (fun _ h9 => h9) rfl d_Crowd_add_22 ?_
    refine lv_aload_n hx hb d_Crowd_add_25 rfl (lv_at hl 0 rfl) ?_
    refine va_get (D := (dC, dI)) (ci := 0) (v := .int (q_pc (s_pf x (upd (q_pf x) (q_pc x).toNatClampNeg a1)))) (C := R_Crowd) (T := F_Crowd) (N := 5) hx hb hbw in_Crowd hown hK hP 7 rfl rfl 4 (by decide) (hbw _ w_160) (fun _ h9 => h9) rfl d_Crowd_add_26 ?_
    refine lv_iload_n hx hb d_Crowd_add_29 rfl (lv_at hl 2 rfl) ?_
    refine va_iast hx hb hK hP hD hS 23 0 rfl rfl (ix_szl hI.2.2.2.1 c_1 rfl) d_Crowd_add_30 (fun H locs hP hD hS => ?_)
    rw [wC_s_pa] at hP hD
    refine lv_aload_n hx hb d_Crowd_add_31 rfl (lv_at hl 0 rfl) ?_
    refine va_get (D := (dC, dI)) (ci := 0) (v := .ref (ad 24)) (C := R_Crowd) (T := F_Crowd) (N := 5) hx hb hbw in_Crowd hown hK hP 7 rfl rfl 2 (by decide) (hbw _ w_158) (fun _ h9 => h9) rfl d_Crowd_add_32 ?_
    refine lv_aload_n hx hb d_Crowd_add_35 rfl (lv_at hl 0 rfl) ?_
    refine va_get (D := (dC, dI)) (ci := 0) (v := .int (q_pc (s_pa (s_pf x (upd (q_pf x) (q_pc x).toNatClampNeg a1)) (upd (q_pa (s_pf x (upd (q_pf x) (q_pc x).toNatClampNeg a1))) (q_pc (s_pf x (upd (q_pf x) (q_pc x).toNatClampNeg a1))).toNatClampNeg a2)))) (C := R_Crowd) (T := F_Crowd) (N := 5) hx hb hbw in_Crowd hown hK hP 7 rfl rfl 4 (by decide) (hbw _ w_160) (fun _ h9 => h9) rfl d_Crowd_add_36 ?_
    refine lv_iload_n hx hb d_Crowd_add_39 rfl (lv_at hl 3 rfl) ?_
    refine va_iast hx hb hK hP hD hS 24 0 rfl rfl (ix_szl hI.2.2.2.1 c_1 rfl) d_Crowd_add_40 (fun H locs hP hD hS => ?_)
    rw [wC_s_pb] at hP hD
    refine lv_aload_n hx hb d_Crowd_add_41 rfl (lv_at hl 0 rfl) ?_
    refine va_get (D := (dC, dI)) (ci := 0) (v := .ref (ad 25)) (C := R_Crowd) (T := F_Crowd) (N := 5) hx hb hbw in_Crowd hown hK hP 7 rfl rfl 3 (by decide) (hbw _ w_159) (fun _ h9 => h9) rfl d_Crowd_add_42 ?_
    refine lv_aload_n hx hb d_Crowd_add_45 rfl (lv_at hl 0 rfl) ?_
    refine va_get (D := (dC, dI)) (ci := 0) (v := .int (q_pc (s_pb (s_pa (s_pf x (upd (q_pf x) (q_pc x).toNatClampNeg a1)) (upd (q_pa (s_pf x (upd (q_pf x) (q_pc x).toNatClampNeg a1))) (q_pc (s_pf x (upd (q_pf x) (q_pc x).toNatClampNeg a1))).toNatClampNeg a2)) (upd (q_pb (s_pa (s_pf x (upd (q_pf x) (q_pc x).toNatClampNeg a1)) (upd (q_pa (s_pf x (upd (q_pf x) (q_pc x).toNatClampNeg a1))) (q_pc (s_pf x (upd (q_pf x) (q_pc x).toNatClampNeg a1))).toNatClampNeg a2))) (q_pc (s_pa (s_pf x (upd (q_pf x) (q_pc x).toNatClampNeg a1)) (upd (q_pa (s_pf x (upd (q_pf x) (q_pc x).toNatClampNeg a1))) (q_pc (s_pf x (upd (q_pf x) (q_pc x).toNatClampNeg a1))).toNatClampNeg a2))).toNatClampNeg a3)))) (C := R_Crowd) (T := F_Crowd) (N := 5) hx hb hbw in_Crowd hown hK hP 7 rfl rfl 4 (by decide) (hbw _ w_160) (fun _ h9 => h9) rfl d_Crowd_add_46 ?_
    refine lv_iload hx hb d_Crowd_add_49 (lv_at hl 4 rfl) ?_
    refine va_iast hx hb hK hP hD hS 25 0 rfl rfl (ix_szl hI.2.2.2.1 c_1 rfl) d_Crowd_add_51 (fun H locs hP hD hS => ?_)
    rw [wC_s_pn] at hP hD
    refine lv_aload_n hx hb d_Crowd_add_52 rfl (lv_at hl 0 rfl) ?_
    refine lv_dup hx hb d_Crowd_add_53 rfl ?_
    refine va_get (D := (dC, dI)) (ci := 0) (v := .int (q_pc (s_pn (s_pb (s_pa (s_pf x (upd (q_pf x) (q_pc x).toNatClampNeg a1)) (upd (q_pa (s_pf x (upd (q_pf x) (q_pc x).toNatClampNeg a1))) (q_pc (s_pf x (upd (q_pf x) (q_pc x).toNatClampNeg a1))).toNatClampNeg a2)) (upd (q_pb (s_pa (s_pf x (upd (q_pf x) (q_pc x).toNatClampNeg a1)) (upd (q_pa (s_pf x (upd (q_pf x) (q_pc x).toNatClampNeg a1))) (q_pc (s_pf x (upd (q_pf x) (q_pc x).toNatClampNeg a1))).toNatClampNeg a2))) (q_pc (s_pa (s_pf x (upd (q_pf x) (q_pc x).toNatClampNeg a1)) (upd (q_pa (s_pf x (upd (q_pf x) (q_pc x).toNatClampNeg a1))) (q_pc (s_pf x (upd (q_pf x) (q_pc x).toNatClampNeg a1))).toNatClampNeg a2))).toNatClampNeg a3)) (upd (q_pn (s_pb (s_pa (s_pf x (upd (q_pf x) (q_pc x).toNatClampNeg a1)) (upd (q_pa (s_pf x (upd (q_pf x) (q_pc x).toNatClampNeg a1))) (q_pc (s_pf x (upd (q_pf x) (q_pc x).toNatClampNeg a1))).toNatClampNeg a2)) (upd (q_pb (s_pa (s_pf x (upd (q_pf x) (q_pc x).toNatClampNeg a1)) (upd (q_pa (s_pf x (upd (q_pf x) (q_pc x).toNatClampNeg a1))) (q_pc (s_pf x (upd (q_pf x) (q_pc x).toNatClampNeg a1))).toNatClampNeg a2))) (q_pc (s_pa (s_pf x (upd (q_pf x) (q_pc x).toNatClampNeg a1)) (upd (q_pa (s_pf x (upd (q_pf x) (q_pc x).toNatClampNeg a1))) (q_pc (s_pf x (upd (q_pf x) (q_pc x).toNatClampNeg a1))).toNatClampNeg a2))).toNatClampNeg a3))) (q_pc (s_pb (s_pa (s_pf x (upd (q_pf x) (q_pc x).toNatClampNeg a1)) (upd (q_pa (s_pf x (upd (q_pf x) (q_pc x).toNatClampNeg a1))) (q_pc (s_pf x (upd (q_pf x) (q_pc x).toNatClampNeg a1))).toNatClampNeg a2)) (upd (q_pb (s_pa (s_pf x (upd (q_pf x) (q_pc x).toNatClampNeg a1)) (upd (q_pa (s_pf x (upd (q_pf x) (q_pc x).toNatClampNeg a1))) (q_pc (s_pf x (upd (q_pf x) (q_pc x).toNatClampNeg a1))).toNatClampNeg a2))) (q_pc (s_pa (s_pf x (upd (q_pf x) (q_pc x).toNatClampNeg a1)) (upd (q_pa (s_pf x (upd (q_pf x) (q_pc x).toNatClampNeg a1))) (q_pc (s_pf x (upd (q_pf x) (q_pc x).toNatClampNeg a1))).toNatClampNeg a2))).toNatClampNeg a3))).toNatClampNeg a4)))) (C := R_Crowd) (T := F_Crowd) (N := 5) hx hb hbw in_Crowd hown hK hP 7 rfl rfl 4 (by decide) (hbw _ w_160) (fun _ h9 => h9) rfl d_Crowd_add_54 ?_
    refine lv_iconst (v := 1) hx hb d_Crowd_add_57 (by decide) ?_
    refine lv_iadd hx hb d_Crowd_add_58 ?_
    refine va_put (D := (dC, dI)) (ci := 0) (v := .int ((q_pc (s_pn (s_pb (s_pa (s_pf x (upd (q_pf x) (q_pc x).toNatClampNeg a1)) (upd (q_pa (s_pf x (upd (q_pf x) (q_pc x).toNatClampNeg a1))) (q_pc (s_pf x (upd (q_pf x) (q_pc x).toNatClampNeg a1))).toNatClampNeg a2)) (upd (q_pb (s_pa (s_pf x (upd (q_pf x) (q_pc x).toNatClampNeg a1)) (upd (q_pa (s_pf x (upd (q_pf x) (q_pc x).toNatClampNeg a1))) (q_pc (s_pf x (upd (q_pf x) (q_pc x).toNatClampNeg a1))).toNatClampNeg a2))) (q_pc (s_pa (s_pf x (upd (q_pf x) (q_pc x).toNatClampNeg a1)) (upd (q_pa (s_pf x (upd (q_pf x) (q_pc x).toNatClampNeg a1))) (q_pc (s_pf x (upd (q_pf x) (q_pc x).toNatClampNeg a1))).toNatClampNeg a2))).toNatClampNeg a3)) (upd (q_pn (s_pb (s_pa (s_pf x (upd (q_pf x) (q_pc x).toNatClampNeg a1)) (upd (q_pa (s_pf x (upd (q_pf x) (q_pc x).toNatClampNeg a1))) (q_pc (s_pf x (upd (q_pf x) (q_pc x).toNatClampNeg a1))).toNatClampNeg a2)) (upd (q_pb (s_pa (s_pf x (upd (q_pf x) (q_pc x).toNatClampNeg a1)) (upd (q_pa (s_pf x (upd (q_pf x) (q_pc x).toNatClampNeg a1))) (q_pc (s_pf x (upd (q_pf x) (q_pc x).toNatClampNeg a1))).toNatClampNeg a2))) (q_pc (s_pa (s_pf x (upd (q_pf x) (q_pc x).toNatClampNeg a1)) (upd (q_pa (s_pf x (upd (q_pf x) (q_pc x).toNatClampNeg a1))) (q_pc (s_pf x (upd (q_pf x) (q_pc x).toNatClampNeg a1))).toNatClampNeg a2))).toNatClampNeg a3))) (q_pc (s_pb (s_pa (s_pf x (upd (q_pf x) (q_pc x).toNatClampNeg a1)) (upd (q_pa (s_pf x (upd (q_pf x) (q_pc x).toNatClampNeg a1))) (q_pc (s_pf x (upd (q_pf x) (q_pc x).toNatClampNeg a1))).toNatClampNeg a2)) (upd (q_pb (s_pa (s_pf x (upd (q_pf x) (q_pc x).toNatClampNeg a1)) (upd (q_pa (s_pf x (upd (q_pf x) (q_pc x).toNatClampNeg a1))) (q_pc (s_pf x (upd (q_pf x) (q_pc x).toNatClampNeg a1))).toNatClampNeg a2))) (q_pc (s_pa (s_pf x (upd (q_pf x) (q_pc x).toNatClampNeg a1)) (upd (q_pa (s_pf x (upd (q_pf x) (q_pc x).toNatClampNeg a1))) (q_pc (s_pf x (upd (q_pf x) (q_pc x).toNatClampNeg a1))).toNatClampNeg a2))).toNatClampNeg a3))).toNatClampNeg a4))) + 1)) (ty := .int) (C := R_Crowd) (T := F_Crowd) (N := 5) hx hb hbw in_Crowd t_Crowd t_Crowd_ok n_Crowd hown hK hP hD hS 7 rfl rfl 4 (by decide) (hbw _ w_160) (fun _ h9 => h9) rfl (by decide +kernel) rfl rfl (Nat.le_of_ble_eq_true rfl) d_Crowd_add_59 (fun H locs hP hD hS => ?_)
    rw [wC_s_pc] at hP hD
    refine lv_aload_n hx hb d_Crowd_add_62 rfl (lv_at hl 0 rfl) ?_
    refine va_get (D := (dC, dI)) (ci := 0) (v := .int (q_pc (s_pc (s_pn (s_pb (s_pa (s_pf x (upd (q_pf x) (q_pc x).toNatClampNeg a1)) (upd (q_pa (s_pf x (upd (q_pf x) (q_pc x).toNatClampNeg a1))) (q_pc (s_pf x (upd (q_pf x) (q_pc x).toNatClampNeg a1))).toNatClampNeg a2)) (upd (q_pb (s_pa (s_pf x (upd (q_pf x) (q_pc x).toNatClampNeg a1)) (upd (q_pa (s_pf x (upd (q_pf x) (q_pc x).toNatClampNeg a1))) (q_pc (s_pf x (upd (q_pf x) (q_pc x).toNatClampNeg a1))).toNatClampNeg a2))) (q_pc (s_pa (s_pf x (upd (q_pf x) (q_pc x).toNatClampNeg a1)) (upd (q_pa (s_pf x (upd (q_pf x) (q_pc x).toNatClampNeg a1))) (q_pc (s_pf x (upd (q_pf x) (q_pc x).toNatClampNeg a1))).toNatClampNeg a2))).toNatClampNeg a3)) (upd (q_pn (s_pb (s_pa (s_pf x (upd (q_pf x) (q_pc x).toNatClampNeg a1)) (upd (q_pa (s_pf x (upd (q_pf x) (q_pc x).toNatClampNeg a1))) (q_pc (s_pf x (upd (q_pf x) (q_pc x).toNatClampNeg a1))).toNatClampNeg a2)) (upd (q_pb (s_pa (s_pf x (upd (q_pf x) (q_pc x).toNatClampNeg a1)) (upd (q_pa (s_pf x (upd (q_pf x) (q_pc x).toNatClampNeg a1))) (q_pc (s_pf x (upd (q_pf x) (q_pc x).toNatClampNeg a1))).toNatClampNeg a2))) (q_pc (s_pa (s_pf x (upd (q_pf x) (q_pc x).toNatClampNeg a1)) (upd (q_pa (s_pf x (upd (q_pf x) (q_pc x).toNatClampNeg a1))) (q_pc (s_pf x (upd (q_pf x) (q_pc x).toNatClampNeg a1))).toNatClampNeg a2))).toNatClampNeg a3))) (q_pc (s_pb (s_pa (s_pf x (upd (q_pf x) (q_pc x).toNatClampNeg a1)) (upd (q_pa (s_pf x (upd (q_pf x) (q_pc x).toNatClampNeg a1))) (q_pc (s_pf x (upd (q_pf x) (q_pc x).toNatClampNeg a1))).toNatClampNeg a2)) (upd (q_pb (s_pa (s_pf x (upd (q_pf x) (q_pc x).toNatClampNeg a1)) (upd (q_pa (s_pf x (upd (q_pf x) (q_pc x).toNatClampNeg a1))) (q_pc (s_pf x (upd (q_pf x) (q_pc x).toNatClampNeg a1))).toNatClampNeg a2))) (q_pc (s_pa (s_pf x (upd (q_pf x) (q_pc x).toNatClampNeg a1)) (upd (q_pa (s_pf x (upd (q_pf x) (q_pc x).toNatClampNeg a1))) (q_pc (s_pf x (upd (q_pf x) (q_pc x).toNatClampNeg a1))).toNatClampNeg a2))).toNatClampNeg a3))).toNatClampNeg a4)) ((q_pc (s_pn (s_pb (s_pa (s_pf x (upd (q_pf x) (q_pc x).toNatClampNeg a1)) (upd (q_pa (s_pf x (upd (q_pf x) (q_pc x).toNatClampNeg a1))) (q_pc (s_pf x (upd (q_pf x) (q_pc x).toNatClampNeg a1))).toNatClampNeg a2)) (upd (q_pb (s_pa (s_pf x (upd (q_pf x) (q_pc x).toNatClampNeg a1)) (upd (q_pa (s_pf x (upd (q_pf x) (q_pc x).toNatClampNeg a1))) (q_pc (s_pf x (upd (q_pf x) (q_pc x).toNatClampNeg a1))).toNatClampNeg a2))) (q_pc (s_pa (s_pf x (upd (q_pf x) (q_pc x).toNatClampNeg a1)) (upd (q_pa (s_pf x (upd (q_pf x) (q_pc x).toNatClampNeg a1))) (q_pc (s_pf x (upd (q_pf x) (q_pc x).toNatClampNeg a1))).toNatClampNeg a2))).toNatClampNeg a3)) (upd (q_pn (s_pb (s_pa (s_pf x (upd (q_pf x) (q_pc x).toNatClampNeg a1)) (upd (q_pa (s_pf x (upd (q_pf x) (q_pc x).toNatClampNeg a1))) (q_pc (s_pf x (upd (q_pf x) (q_pc x).toNatClampNeg a1))).toNatClampNeg a2)) (upd (q_pb (s_pa (s_pf x (upd (q_pf x) (q_pc x).toNatClampNeg a1)) (upd (q_pa (s_pf x (upd (q_pf x) (q_pc x).toNatClampNeg a1))) (q_pc (s_pf x (upd (q_pf x) (q_pc x).toNatClampNeg a1))).toNatClampNeg a2))) (q_pc (s_pa (s_pf x (upd (q_pf x) (q_pc x).toNatClampNeg a1)) (upd (q_pa (s_pf x (upd (q_pf x) (q_pc x).toNatClampNeg a1))) (q_pc (s_pf x (upd (q_pf x) (q_pc x).toNatClampNeg a1))).toNatClampNeg a2))).toNatClampNeg a3))) (q_pc (s_pb (s_pa (s_pf x (upd (q_pf x) (q_pc x).toNatClampNeg a1)) (upd (q_pa (s_pf x (upd (q_pf x) (q_pc x).toNatClampNeg a1))) (q_pc (s_pf x (upd (q_pf x) (q_pc x).toNatClampNeg a1))).toNatClampNeg a2)) (upd (q_pb (s_pa (s_pf x (upd (q_pf x) (q_pc x).toNatClampNeg a1)) (upd (q_pa (s_pf x (upd (q_pf x) (q_pc x).toNatClampNeg a1))) (q_pc (s_pf x (upd (q_pf x) (q_pc x).toNatClampNeg a1))).toNatClampNeg a2))) (q_pc (s_pa (s_pf x (upd (q_pf x) (q_pc x).toNatClampNeg a1)) (upd (q_pa (s_pf x (upd (q_pf x) (q_pc x).toNatClampNeg a1))) (q_pc (s_pf x (upd (q_pf x) (q_pc x).toNatClampNeg a1))).toNatClampNeg a2))).toNatClampNeg a3))).toNatClampNeg a4))) + 1)))) (C := R_Crowd) (T := F_Crowd) (N := 5) hx hb hbw in_Crowd hown hK hP 7 rfl rfl 4 (by decide) (hbw _ w_160) (fun _ h9 => h9) rfl d_Crowd_add_63 ?_
    refine lv_iconst (v := 1) hx hb d_Crowd_add_66 (by decide) ?_
    refine lv_isub hx hb d_Crowd_add_67 ?_
    have hg : g_Crowd_add x a1 a2 a3 a4 = ((q_pc (s_pc (s_pn (s_pb (s_pa (s_pf x (upd (q_pf x) (q_pc x).toNatClampNeg a1)) (upd (q_pa (s_pf x (upd (q_pf x) (q_pc x).toNatClampNeg a1))) (q_pc (s_pf x (upd (q_pf x) (q_pc x).toNatClampNeg a1))).toNatClampNeg a2)) (upd (q_pb (s_pa (s_pf x (upd (q_pf x) (q_pc x).toNatClampNeg a1)) (upd (q_pa (s_pf x (upd (q_pf x) (q_pc x).toNatClampNeg a1))) (q_pc (s_pf x (upd (q_pf x) (q_pc x).toNatClampNeg a1))).toNatClampNeg a2))) (q_pc (s_pa (s_pf x (upd (q_pf x) (q_pc x).toNatClampNeg a1)) (upd (q_pa (s_pf x (upd (q_pf x) (q_pc x).toNatClampNeg a1))) (q_pc (s_pf x (upd (q_pf x) (q_pc x).toNatClampNeg a1))).toNatClampNeg a2))).toNatClampNeg a3)) (upd (q_pn (s_pb (s_pa (s_pf x (upd (q_pf x) (q_pc x).toNatClampNeg a1)) (upd (q_pa (s_pf x (upd (q_pf x) (q_pc x).toNatClampNeg a1))) (q_pc (s_pf x (upd (q_pf x) (q_pc x).toNatClampNeg a1))).toNatClampNeg a2)) (upd (q_pb (s_pa (s_pf x (upd (q_pf x) (q_pc x).toNatClampNeg a1)) (upd (q_pa (s_pf x (upd (q_pf x) (q_pc x).toNatClampNeg a1))) (q_pc (s_pf x (upd (q_pf x) (q_pc x).toNatClampNeg a1))).toNatClampNeg a2))) (q_pc (s_pa (s_pf x (upd (q_pf x) (q_pc x).toNatClampNeg a1)) (upd (q_pa (s_pf x (upd (q_pf x) (q_pc x).toNatClampNeg a1))) (q_pc (s_pf x (upd (q_pf x) (q_pc x).toNatClampNeg a1))).toNatClampNeg a2))).toNatClampNeg a3))) (q_pc (s_pb (s_pa (s_pf x (upd (q_pf x) (q_pc x).toNatClampNeg a1)) (upd (q_pa (s_pf x (upd (q_pf x) (q_pc x).toNatClampNeg a1))) (q_pc (s_pf x (upd (q_pf x) (q_pc x).toNatClampNeg a1))).toNatClampNeg a2)) (upd (q_pb (s_pa (s_pf x (upd (q_pf x) (q_pc x).toNatClampNeg a1)) (upd (q_pa (s_pf x (upd (q_pf x) (q_pc x).toNatClampNeg a1))) (q_pc (s_pf x (upd (q_pf x) (q_pc x).toNatClampNeg a1))).toNatClampNeg a2))) (q_pc (s_pa (s_pf x (upd (q_pf x) (q_pc x).toNatClampNeg a1)) (upd (q_pa (s_pf x (upd (q_pf x) (q_pc x).toNatClampNeg a1))) (q_pc (s_pf x (upd (q_pf x) (q_pc x).toNatClampNeg a1))).toNatClampNeg a2))).toNatClampNeg a3))).toNatClampNeg a4)) ((q_pc (s_pn (s_pb (s_pa (s_pf x (upd (q_pf x) (q_pc x).toNatClampNeg a1)) (upd (q_pa (s_pf x (upd (q_pf x) (q_pc x).toNatClampNeg a1))) (q_pc (s_pf x (upd (q_pf x) (q_pc x).toNatClampNeg a1))).toNatClampNeg a2)) (upd (q_pb (s_pa (s_pf x (upd (q_pf x) (q_pc x).toNatClampNeg a1)) (upd (q_pa (s_pf x (upd (q_pf x) (q_pc x).toNatClampNeg a1))) (q_pc (s_pf x (upd (q_pf x) (q_pc x).toNatClampNeg a1))).toNatClampNeg a2))) (q_pc (s_pa (s_pf x (upd (q_pf x) (q_pc x).toNatClampNeg a1)) (upd (q_pa (s_pf x (upd (q_pf x) (q_pc x).toNatClampNeg a1))) (q_pc (s_pf x (upd (q_pf x) (q_pc x).toNatClampNeg a1))).toNatClampNeg a2))).toNatClampNeg a3)) (upd (q_pn (s_pb (s_pa (s_pf x (upd (q_pf x) (q_pc x).toNatClampNeg a1)) (upd (q_pa (s_pf x (upd (q_pf x) (q_pc x).toNatClampNeg a1))) (q_pc (s_pf x (upd (q_pf x) (q_pc x).toNatClampNeg a1))).toNatClampNeg a2)) (upd (q_pb (s_pa (s_pf x (upd (q_pf x) (q_pc x).toNatClampNeg a1)) (upd (q_pa (s_pf x (upd (q_pf x) (q_pc x).toNatClampNeg a1))) (q_pc (s_pf x (upd (q_pf x) (q_pc x).toNatClampNeg a1))).toNatClampNeg a2))) (q_pc (s_pa (s_pf x (upd (q_pf x) (q_pc x).toNatClampNeg a1)) (upd (q_pa (s_pf x (upd (q_pf x) (q_pc x).toNatClampNeg a1))) (q_pc (s_pf x (upd (q_pf x) (q_pc x).toNatClampNeg a1))).toNatClampNeg a2))).toNatClampNeg a3))) (q_pc (s_pb (s_pa (s_pf x (upd (q_pf x) (q_pc x).toNatClampNeg a1)) (upd (q_pa (s_pf x (upd (q_pf x) (q_pc x).toNatClampNeg a1))) (q_pc (s_pf x (upd (q_pf x) (q_pc x).toNatClampNeg a1))).toNatClampNeg a2)) (upd (q_pb (s_pa (s_pf x (upd (q_pf x) (q_pc x).toNatClampNeg a1)) (upd (q_pa (s_pf x (upd (q_pf x) (q_pc x).toNatClampNeg a1))) (q_pc (s_pf x (upd (q_pf x) (q_pc x).toNatClampNeg a1))).toNatClampNeg a2))) (q_pc (s_pa (s_pf x (upd (q_pf x) (q_pc x).toNatClampNeg a1)) (upd (q_pa (s_pf x (upd (q_pf x) (q_pc x).toNatClampNeg a1))) (q_pc (s_pf x (upd (q_pf x) (q_pc x).toNatClampNeg a1))).toNatClampNeg a2))).toNatClampNeg a3))).toNatClampNeg a4))) + 1))) - 1, s_pc (s_pn (s_pb (s_pa (s_pf x (upd (q_pf x) (q_pc x).toNatClampNeg a1)) (upd (q_pa (s_pf x (upd (q_pf x) (q_pc x).toNatClampNeg a1))) (q_pc (s_pf x (upd (q_pf x) (q_pc x).toNatClampNeg a1))).toNatClampNeg a2)) (upd (q_pb (s_pa (s_pf x (upd (q_pf x) (q_pc x).toNatClampNeg a1)) (upd (q_pa (s_pf x (upd (q_pf x) (q_pc x).toNatClampNeg a1))) (q_pc (s_pf x (upd (q_pf x) (q_pc x).toNatClampNeg a1))).toNatClampNeg a2))) (q_pc (s_pa (s_pf x (upd (q_pf x) (q_pc x).toNatClampNeg a1)) (upd (q_pa (s_pf x (upd (q_pf x) (q_pc x).toNatClampNeg a1))) (q_pc (s_pf x (upd (q_pf x) (q_pc x).toNatClampNeg a1))).toNatClampNeg a2))).toNatClampNeg a3)) (upd (q_pn (s_pb (s_pa (s_pf x (upd (q_pf x) (q_pc x).toNatClampNeg a1)) (upd (q_pa (s_pf x (upd (q_pf x) (q_pc x).toNatClampNeg a1))) (q_pc (s_pf x (upd (q_pf x) (q_pc x).toNatClampNeg a1))).toNatClampNeg a2)) (upd (q_pb (s_pa (s_pf x (upd (q_pf x) (q_pc x).toNatClampNeg a1)) (upd (q_pa (s_pf x (upd (q_pf x) (q_pc x).toNatClampNeg a1))) (q_pc (s_pf x (upd (q_pf x) (q_pc x).toNatClampNeg a1))).toNatClampNeg a2))) (q_pc (s_pa (s_pf x (upd (q_pf x) (q_pc x).toNatClampNeg a1)) (upd (q_pa (s_pf x (upd (q_pf x) (q_pc x).toNatClampNeg a1))) (q_pc (s_pf x (upd (q_pf x) (q_pc x).toNatClampNeg a1))).toNatClampNeg a2))).toNatClampNeg a3))) (q_pc (s_pb (s_pa (s_pf x (upd (q_pf x) (q_pc x).toNatClampNeg a1)) (upd (q_pa (s_pf x (upd (q_pf x) (q_pc x).toNatClampNeg a1))) (q_pc (s_pf x (upd (q_pf x) (q_pc x).toNatClampNeg a1))).toNatClampNeg a2)) (upd (q_pb (s_pa (s_pf x (upd (q_pf x) (q_pc x).toNatClampNeg a1)) (upd (q_pa (s_pf x (upd (q_pf x) (q_pc x).toNatClampNeg a1))) (q_pc (s_pf x (upd (q_pf x) (q_pc x).toNatClampNeg a1))).toNatClampNeg a2))) (q_pc (s_pa (s_pf x (upd (q_pf x) (q_pc x).toNatClampNeg a1)) (upd (q_pa (s_pf x (upd (q_pf x) (q_pc x).toNatClampNeg a1))) (q_pc (s_pf x (upd (q_pf x) (q_pc x).toNatClampNeg a1))).toNatClampNeg a2))).toNatClampNeg a3))).toNatClampNeg a4)) ((q_pc (s_pn (s_pb (s_pa (s_pf x (upd (q_pf x) (q_pc x).toNatClampNeg a1)) (upd (q_pa (s_pf x (upd (q_pf x) (q_pc x).toNatClampNeg a1))) (q_pc (s_pf x (upd (q_pf x) (q_pc x).toNatClampNeg a1))).toNatClampNeg a2)) (upd (q_pb (s_pa (s_pf x (upd (q_pf x) (q_pc x).toNatClampNeg a1)) (upd (q_pa (s_pf x (upd (q_pf x) (q_pc x).toNatClampNeg a1))) (q_pc (s_pf x (upd (q_pf x) (q_pc x).toNatClampNeg a1))).toNatClampNeg a2))) (q_pc (s_pa (s_pf x (upd (q_pf x) (q_pc x).toNatClampNeg a1)) (upd (q_pa (s_pf x (upd (q_pf x) (q_pc x).toNatClampNeg a1))) (q_pc (s_pf x (upd (q_pf x) (q_pc x).toNatClampNeg a1))).toNatClampNeg a2))).toNatClampNeg a3)) (upd (q_pn (s_pb (s_pa (s_pf x (upd (q_pf x) (q_pc x).toNatClampNeg a1)) (upd (q_pa (s_pf x (upd (q_pf x) (q_pc x).toNatClampNeg a1))) (q_pc (s_pf x (upd (q_pf x) (q_pc x).toNatClampNeg a1))).toNatClampNeg a2)) (upd (q_pb (s_pa (s_pf x (upd (q_pf x) (q_pc x).toNatClampNeg a1)) (upd (q_pa (s_pf x (upd (q_pf x) (q_pc x).toNatClampNeg a1))) (q_pc (s_pf x (upd (q_pf x) (q_pc x).toNatClampNeg a1))).toNatClampNeg a2))) (q_pc (s_pa (s_pf x (upd (q_pf x) (q_pc x).toNatClampNeg a1)) (upd (q_pa (s_pf x (upd (q_pf x) (q_pc x).toNatClampNeg a1))) (q_pc (s_pf x (upd (q_pf x) (q_pc x).toNatClampNeg a1))).toNatClampNeg a2))).toNatClampNeg a3))) (q_pc (s_pb (s_pa (s_pf x (upd (q_pf x) (q_pc x).toNatClampNeg a1)) (upd (q_pa (s_pf x (upd (q_pf x) (q_pc x).toNatClampNeg a1))) (q_pc (s_pf x (upd (q_pf x) (q_pc x).toNatClampNeg a1))).toNatClampNeg a2)) (upd (q_pb (s_pa (s_pf x (upd (q_pf x) (q_pc x).toNatClampNeg a1)) (upd (q_pa (s_pf x (upd (q_pf x) (q_pc x).toNatClampNeg a1))) (q_pc (s_pf x (upd (q_pf x) (q_pc x).toNatClampNeg a1))).toNatClampNeg a2))) (q_pc (s_pa (s_pf x (upd (q_pf x) (q_pc x).toNatClampNeg a1)) (upd (q_pa (s_pf x (upd (q_pf x) (q_pc x).toNatClampNeg a1))) (q_pc (s_pf x (upd (q_pf x) (q_pc x).toNatClampNeg a1))).toNatClampNeg a2))).toNatClampNeg a3))).toNatClampNeg a4))) + 1)) := by unfold g_Crowd_add; rw [if_pos c_1]
    exact W.toX (W.iret (v := (q_pc (s_pc (s_pn (s_pb (s_pa (s_pf x (upd (q_pf x) (q_pc x).toNatClampNeg a1)) (upd (q_pa (s_pf x (upd (q_pf x) (q_pc x).toNatClampNeg a1))) (q_pc (s_pf x (upd (q_pf x) (q_pc x).toNatClampNeg a1))).toNatClampNeg a2)) (upd (q_pb (s_pa (s_pf x (upd (q_pf x) (q_pc x).toNatClampNeg a1)) (upd (q_pa (s_pf x (upd (q_pf x) (q_pc x).toNatClampNeg a1))) (q_pc (s_pf x (upd (q_pf x) (q_pc x).toNatClampNeg a1))).toNatClampNeg a2))) (q_pc (s_pa (s_pf x (upd (q_pf x) (q_pc x).toNatClampNeg a1)) (upd (q_pa (s_pf x (upd (q_pf x) (q_pc x).toNatClampNeg a1))) (q_pc (s_pf x (upd (q_pf x) (q_pc x).toNatClampNeg a1))).toNatClampNeg a2))).toNatClampNeg a3)) (upd (q_pn (s_pb (s_pa (s_pf x (upd (q_pf x) (q_pc x).toNatClampNeg a1)) (upd (q_pa (s_pf x (upd (q_pf x) (q_pc x).toNatClampNeg a1))) (q_pc (s_pf x (upd (q_pf x) (q_pc x).toNatClampNeg a1))).toNatClampNeg a2)) (upd (q_pb (s_pa (s_pf x (upd (q_pf x) (q_pc x).toNatClampNeg a1)) (upd (q_pa (s_pf x (upd (q_pf x) (q_pc x).toNatClampNeg a1))) (q_pc (s_pf x (upd (q_pf x) (q_pc x).toNatClampNeg a1))).toNatClampNeg a2))) (q_pc (s_pa (s_pf x (upd (q_pf x) (q_pc x).toNatClampNeg a1)) (upd (q_pa (s_pf x (upd (q_pf x) (q_pc x).toNatClampNeg a1))) (q_pc (s_pf x (upd (q_pf x) (q_pc x).toNatClampNeg a1))).toNatClampNeg a2))).toNatClampNeg a3))) (q_pc (s_pb (s_pa (s_pf x (upd (q_pf x) (q_pc x).toNatClampNeg a1)) (upd (q_pa (s_pf x (upd (q_pf x) (q_pc x).toNatClampNeg a1))) (q_pc (s_pf x (upd (q_pf x) (q_pc x).toNatClampNeg a1))).toNatClampNeg a2)) (upd (q_pb (s_pa (s_pf x (upd (q_pf x) (q_pc x).toNatClampNeg a1)) (upd (q_pa (s_pf x (upd (q_pf x) (q_pc x).toNatClampNeg a1))) (q_pc (s_pf x (upd (q_pf x) (q_pc x).toNatClampNeg a1))).toNatClampNeg a2))) (q_pc (s_pa (s_pf x (upd (q_pf x) (q_pc x).toNatClampNeg a1)) (upd (q_pa (s_pf x (upd (q_pf x) (q_pc x).toNatClampNeg a1))) (q_pc (s_pf x (upd (q_pf x) (q_pc x).toNatClampNeg a1))).toNatClampNeg a2))).toNatClampNeg a3))).toNatClampNeg a4)) ((q_pc (s_pn (s_pb (s_pa (s_pf x (upd (q_pf x) (q_pc x).toNatClampNeg a1)) (upd (q_pa (s_pf x (upd (q_pf x) (q_pc x).toNatClampNeg a1))) (q_pc (s_pf x (upd (q_pf x) (q_pc x).toNatClampNeg a1))).toNatClampNeg a2)) (upd (q_pb (s_pa (s_pf x (upd (q_pf x) (q_pc x).toNatClampNeg a1)) (upd (q_pa (s_pf x (upd (q_pf x) (q_pc x).toNatClampNeg a1))) (q_pc (s_pf x (upd (q_pf x) (q_pc x).toNatClampNeg a1))).toNatClampNeg a2))) (q_pc (s_pa (s_pf x (upd (q_pf x) (q_pc x).toNatClampNeg a1)) (upd (q_pa (s_pf x (upd (q_pf x) (q_pc x).toNatClampNeg a1))) (q_pc (s_pf x (upd (q_pf x) (q_pc x).toNatClampNeg a1))).toNatClampNeg a2))).toNatClampNeg a3)) (upd (q_pn (s_pb (s_pa (s_pf x (upd (q_pf x) (q_pc x).toNatClampNeg a1)) (upd (q_pa (s_pf x (upd (q_pf x) (q_pc x).toNatClampNeg a1))) (q_pc (s_pf x (upd (q_pf x) (q_pc x).toNatClampNeg a1))).toNatClampNeg a2)) (upd (q_pb (s_pa (s_pf x (upd (q_pf x) (q_pc x).toNatClampNeg a1)) (upd (q_pa (s_pf x (upd (q_pf x) (q_pc x).toNatClampNeg a1))) (q_pc (s_pf x (upd (q_pf x) (q_pc x).toNatClampNeg a1))).toNatClampNeg a2))) (q_pc (s_pa (s_pf x (upd (q_pf x) (q_pc x).toNatClampNeg a1)) (upd (q_pa (s_pf x (upd (q_pf x) (q_pc x).toNatClampNeg a1))) (q_pc (s_pf x (upd (q_pf x) (q_pc x).toNatClampNeg a1))).toNatClampNeg a2))).toNatClampNeg a3))) (q_pc (s_pb (s_pa (s_pf x (upd (q_pf x) (q_pc x).toNatClampNeg a1)) (upd (q_pa (s_pf x (upd (q_pf x) (q_pc x).toNatClampNeg a1))) (q_pc (s_pf x (upd (q_pf x) (q_pc x).toNatClampNeg a1))).toNatClampNeg a2)) (upd (q_pb (s_pa (s_pf x (upd (q_pf x) (q_pc x).toNatClampNeg a1)) (upd (q_pa (s_pf x (upd (q_pf x) (q_pc x).toNatClampNeg a1))) (q_pc (s_pf x (upd (q_pf x) (q_pc x).toNatClampNeg a1))).toNatClampNeg a2))) (q_pc (s_pa (s_pf x (upd (q_pf x) (q_pc x).toNatClampNeg a1)) (upd (q_pa (s_pf x (upd (q_pf x) (q_pc x).toNatClampNeg a1))) (q_pc (s_pf x (upd (q_pf x) (q_pc x).toNatClampNeg a1))).toNatClampNeg a2))).toNatClampNeg a3))).toNatClampNeg a4))) + 1))) - 1) hx hb hr (fun t ht hW => ⟨by rw [hg], ⟨by rw [ht, hg]; exact hP, va_K.moved hW.alike hK, hN.warm hW⟩, hS.F ht⟩) hS.2.2 d_Crowd_add_68)
  · refine lv_iconst (v := (-1)) hx hb d_Crowd_add_9 (by decide) ?_
    have hg : g_Crowd_add x a1 a2 a3 a4 = ((-1), x) := by unfold g_Crowd_add; rw [if_neg c_1]
    exact W.toX (W.iret (v := (-1)) hx hb hr (fun t ht hW => ⟨by rw [hg], ⟨by rw [ht, hg]; exact hP, va_K.moved hW.alike hK, hN.warm hW⟩, hS.F ht⟩) hS.2.2 d_Crowd_add_10)
def g_Win_add (x : ST) (a1 a2 a3 : Int32) : Int32 × ST := if (q_wc x) < 30 then ((q_wc (s_wc (s_wz (s_wy (s_wx x (upd (q_wx x) (q_wc x).toNatClampNeg a1)) (upd (q_wy (s_wx x (upd (q_wx x) (q_wc x).toNatClampNeg a1))) (q_wc (s_wx x (upd (q_wx x) (q_wc x).toNatClampNeg a1))).toNatClampNeg a2)) (upd (q_wz (s_wy (s_wx x (upd (q_wx x) (q_wc x).toNatClampNeg a1)) (upd (q_wy (s_wx x (upd (q_wx x) (q_wc x).toNatClampNeg a1))) (q_wc (s_wx x (upd (q_wx x) (q_wc x).toNatClampNeg a1))).toNatClampNeg a2))) (q_wc (s_wy (s_wx x (upd (q_wx x) (q_wc x).toNatClampNeg a1)) (upd (q_wy (s_wx x (upd (q_wx x) (q_wc x).toNatClampNeg a1))) (q_wc (s_wx x (upd (q_wx x) (q_wc x).toNatClampNeg a1))).toNatClampNeg a2))).toNatClampNeg a3)) ((q_wc (s_wz (s_wy (s_wx x (upd (q_wx x) (q_wc x).toNatClampNeg a1)) (upd (q_wy (s_wx x (upd (q_wx x) (q_wc x).toNatClampNeg a1))) (q_wc (s_wx x (upd (q_wx x) (q_wc x).toNatClampNeg a1))).toNatClampNeg a2)) (upd (q_wz (s_wy (s_wx x (upd (q_wx x) (q_wc x).toNatClampNeg a1)) (upd (q_wy (s_wx x (upd (q_wx x) (q_wc x).toNatClampNeg a1))) (q_wc (s_wx x (upd (q_wx x) (q_wc x).toNatClampNeg a1))).toNatClampNeg a2))) (q_wc (s_wy (s_wx x (upd (q_wx x) (q_wc x).toNatClampNeg a1)) (upd (q_wy (s_wx x (upd (q_wx x) (q_wc x).toNatClampNeg a1))) (q_wc (s_wx x (upd (q_wx x) (q_wc x).toNatClampNeg a1))).toNatClampNeg a2))).toNatClampNeg a3))) + 1))) - 1, s_wc (s_wz (s_wy (s_wx x (upd (q_wx x) (q_wc x).toNatClampNeg a1)) (upd (q_wy (s_wx x (upd (q_wx x) (q_wc x).toNatClampNeg a1))) (q_wc (s_wx x (upd (q_wx x) (q_wc x).toNatClampNeg a1))).toNatClampNeg a2)) (upd (q_wz (s_wy (s_wx x (upd (q_wx x) (q_wc x).toNatClampNeg a1)) (upd (q_wy (s_wx x (upd (q_wx x) (q_wc x).toNatClampNeg a1))) (q_wc (s_wx x (upd (q_wx x) (q_wc x).toNatClampNeg a1))).toNatClampNeg a2))) (q_wc (s_wy (s_wx x (upd (q_wx x) (q_wc x).toNatClampNeg a1)) (upd (q_wy (s_wx x (upd (q_wx x) (q_wc x).toNatClampNeg a1))) (q_wc (s_wx x (upd (q_wx x) (q_wc x).toNatClampNeg a1))).toNatClampNeg a2))).toNatClampNeg a3)) ((q_wc (s_wz (s_wy (s_wx x (upd (q_wx x) (q_wc x).toNatClampNeg a1)) (upd (q_wy (s_wx x (upd (q_wx x) (q_wc x).toNatClampNeg a1))) (q_wc (s_wx x (upd (q_wx x) (q_wc x).toNatClampNeg a1))).toNatClampNeg a2)) (upd (q_wz (s_wy (s_wx x (upd (q_wx x) (q_wc x).toNatClampNeg a1)) (upd (q_wy (s_wx x (upd (q_wx x) (q_wc x).toNatClampNeg a1))) (q_wc (s_wx x (upd (q_wx x) (q_wc x).toNatClampNeg a1))).toNatClampNeg a2))) (q_wc (s_wy (s_wx x (upd (q_wx x) (q_wc x).toNatClampNeg a1)) (upd (q_wy (s_wx x (upd (q_wx x) (q_wc x).toNatClampNeg a1))) (q_wc (s_wx x (upd (q_wx x) (q_wc x).toNatClampNeg a1))).toNatClampNeg a2))).toNatClampNeg a3))) + 1)) else ((-1), x)
set_option maxHeartbeats 4000000 in
set_option maxRecDepth 100000 in
theorem u_Win_add (l : Launch) (dC : Nat → ClassId) (dI : Nat → Nat → Nat) (cI cZ : ClassId) (ad : Nat → Nat) (hj : aInj 29 ad) (x : ST) (hI : CIn x) (sz : Nat) (a1 a2 a3 : Int32) : MX l y_Win_add (Cond.code y_Win_add b_Win_add 4 (some .int) :: BW) { frames := 0, cells := 0, slots := 0, locals := 0 } (PCZ sz (dC, dI) [(cI, .int), (cZ, .boolean)] (wC cI cZ ad x) [.ref (ad 8), .int a1, .int a2, .int a3]) (UQ (some (.int (g_Win_add x a1 a2 a3).1)) (WB (dC, dI) [(cI, .int), (cZ, .boolean)] (wC cI cZ ad (g_Win_add x a1 a2 a3).2)) (aC 29 ad sz)) 0 0 (aC 29 ad sz) := by
  refine MX.ofW (cc := b_Win_add) (maxL := 4) (ret := (some .int)) (by decide) rfl ?_
  intro p e s m args below meth c s₁ B hml hex hv
  obtain ⟨hsz, rfl, hP, hK, hN⟩ := hv
  subst hsz
  have hx := B.exec
  have hb := B.bytes
  have hr := B.returns
  have hts := atoms_spec (ws := Cond.code y_Win_add b_Win_add 4 (some .int) :: BW) B.pre
  have hbw : ∀ w ∈ BW, w.before ([.ref (ad 8), .int a1, .int a2, .int a3]).toArray s = true := fun w h => hts w (List.mem_cons_of_mem _ h)
  have hown : s.vm.findClass "PlanRows$Windows" = some m.cls := findClass_of_methodNamed B.named
  have hlocks := B.notSynchronized
  have hDx : ∀ z, va_D (aC 29 ad s.heap.size) (wC cI cZ ad z) := fun z => w_D hj (wC_ad cI cZ ad z) _
  have hA : ∀ H : Heap, s.heap.size ≤ H.size → ∀ q, aC 29 ad H.size q → aC 29 ad s.heap.size q := fun H h => aC_le h
  generalize aC 29 ad s.heap.size = A at hDx hA ⊢
  have hD := hDx x
  have hS : va_S A s.heap s.heap [] := va_S.rf
  have hI0 := hI
  have hl := lv_entry ([.ref (ad 8), .int a1, .int a2, .int a3]) (n := 4) (Nat.le_of_ble_eq_true rfl)
  rw [lg_entry_eq]
  generalize (lg_sl ([.ref (ad 8), .int a1, .int a2, .int a3]) ++ List.replicate (4 - (lg_sl ([.ref (ad 8), .int a1, .int a2, .int a3])).length) Slot.unset).toArray = ls at hl ⊢
  obtain ⟨H, hH⟩ : ∃ H, H = s.heap := ⟨_, rfl⟩
  obtain ⟨locs, hlocs⟩ : ∃ locs : List Loc, locs = [] := ⟨_, rfl⟩
  have hP : va_P (dC, dI) clsA (wC cI cZ ad x) H := by rw [hH]; exact hP
  have hS : va_S A s.heap H locs := by rw [hH, hlocs]; exact hS
  rw [← hlocs]
  have hW0 : ∀ (R : Room) (Q : State → Prop) (g : JFrame), W p l e R s m ([.ref (ad 8), .int a1, .int a2, .int a3]).toArray below meth c H locs 0 0 Q g → W p l e R s m ([.ref (ad 8), .int a1, .int a2, .int a3]).toArray below meth c s.heap locs 0 0 Q g := fun R Q g h => by rw [← hH]; exact h
  refine hW0 _ _ _ ?_
  have hl : lv_has ls 4 [(0, .ref (ad 8)), (1, .int a1), (2, .int a2), (3, .int a3)] := hl
  refine lv_aload_n hx hb d_Win_add_0 rfl (lv_at hl 0 rfl) ?_
  refine va_get (D := (dC, dI)) (ci := 7) (v := .int (q_wc x)) (C := R_Win) (T := F_Win) (N := 4) hx hb hbw in_Win hown hK hP 8 rfl rfl 3 (by decide) (hbw _ w_181) (fun _ h9 => h9) rfl d_Win_add_1 ?_
  refine lv_bipush (v := 30) hx hb d_Win_add_4 (by decide) ?_
  refine lv_icmp_lt (tgt := 11) hx hb d_Win_add_6 (by decide) (fun c_1 => ?_) (fun c_1 => ?_)
  · refine lv_aload_n hx hb d_Win_add_11 rfl (lv_at hl 0 rfl) ?_
    refine va_get (D := (dC, dI)) (ci := 7) (v := .ref (ad 26)) (C := R_Win) (T := F_Win) (N := 4) hx hb hbw in_Win hown hK hP 8 rfl rfl 0 (by decide) (hbw _ w_178) (fun _ h9 => h9) rfl d_Win_add_12 ?_
    refine lv_aload_n hx hb d_Win_add_15 rfl (lv_at hl 0 rfl) ?_
    refine va_get (D := (dC, dI)) (ci := 7) (v := .int (q_wc x)) (C := R_Win) (T := F_Win) (N := 4) hx hb hbw in_Win hown hK hP 8 rfl rfl 3 (by decide) (hbw _ w_181) (fun _ h9 => h9) rfl d_Win_add_16 ?_
    refine lv_iload_n hx hb d_Win_add_19 rfl (lv_at hl 1 rfl) ?_
    refine va_iast hx hb hK hP hD hS 26 0 rfl rfl (ix_szl hI.2.2.2.2.1 c_1 rfl) d_Win_add_20 (fun H locs hP hD hS => ?_)
    rw [wC_s_wx] at hP hD
    refine lv_aload_n hx hb d_Win_add_21 rfl (lv_at hl 0 rfl) ?_
    refine va_get (D := (dC, dI)) (ci := 7) (v := .ref (ad 27)) (C := R_Win) (T := F_Win) (N := 4) hx hb hbw in_Win hown hK hP 8 rfl rfl 1 (by decide) (hbw _ w_179) (fun _ h9 => h9) rfl d_Win_add_22 ?_
    refine lv_aload_n hx hb d_Win_add_25 rfl (lv_at hl 0 rfl) ?_
    refine va_get (D := (dC, dI)) (ci := 7) (v := .int (q_wc (s_wx x (upd (q_wx x) (q_wc x).toNatClampNeg a1)))) (C := R_Win) (T := F_Win) (N := 4) hx hb hbw in_Win hown hK hP 8 rfl rfl 3 (by decide) (hbw _ w_181) (fun _ h9 => h9) rfl d_Win_add_26 ?_
    refine lv_iload_n hx hb d_Win_add_29 rfl (lv_at hl 2 rfl) ?_
    refine va_iast hx hb hK hP hD hS 27 0 rfl rfl (ix_szl hI.2.2.2.2.1 c_1 rfl) d_Win_add_30 (fun H locs hP hD hS => ?_)
    rw [wC_s_wy] at hP hD
    refine lv_aload_n hx hb d_Win_add_31 rfl (lv_at hl 0 rfl) ?_
    refine va_get (D := (dC, dI)) (ci := 7) (v := .ref (ad 28)) (C := R_Win) (T := F_Win) (N := 4) hx hb hbw in_Win hown hK hP 8 rfl rfl 2 (by decide) (hbw _ w_180) (fun _ h9 => h9) rfl d_Win_add_32 ?_
    refine lv_aload_n hx hb d_Win_add_35 rfl (lv_at hl 0 rfl) ?_
    refine va_get (D := (dC, dI)) (ci := 7) (v := .int (q_wc (s_wy (s_wx x (upd (q_wx x) (q_wc x).toNatClampNeg a1)) (upd (q_wy (s_wx x (upd (q_wx x) (q_wc x).toNatClampNeg a1))) (q_wc (s_wx x (upd (q_wx x) (q_wc x).toNatClampNeg a1))).toNatClampNeg a2)))) (C := R_Win) (T := F_Win) (N := 4) hx hb hbw in_Win hown hK hP 8 rfl rfl 3 (by decide) (hbw _ w_181) (fun _ h9 => h9) rfl d_Win_add_36 ?_
    refine lv_iload_n hx hb d_Win_add_39 rfl (lv_at hl 3 rfl) ?_
    refine va_iast hx hb hK hP hD hS 28 0 rfl rfl (ix_szl hI.2.2.2.2.1 c_1 rfl) d_Win_add_40 (fun H locs hP hD hS => ?_)
    rw [wC_s_wz] at hP hD
    refine lv_aload_n hx hb d_Win_add_41 rfl (lv_at hl 0 rfl) ?_
    refine lv_dup hx hb d_Win_add_42 rfl ?_
    refine va_get (D := (dC, dI)) (ci := 7) (v := .int (q_wc (s_wz (s_wy (s_wx x (upd (q_wx x) (q_wc x).toNatClampNeg a1)) (upd (q_wy (s_wx x (upd (q_wx x) (q_wc x).toNatClampNeg a1))) (q_wc (s_wx x (upd (q_wx x) (q_wc x).toNatClampNeg a1))).toNatClampNeg a2)) (upd (q_wz (s_wy (s_wx x (upd (q_wx x) (q_wc x).toNatClampNeg a1)) (upd (q_wy (s_wx x (upd (q_wx x) (q_wc x).toNatClampNeg a1))) (q_wc (s_wx x (upd (q_wx x) (q_wc x).toNatClampNeg a1))).toNatClampNeg a2))) (q_wc (s_wy (s_wx x (upd (q_wx x) (q_wc x).toNatClampNeg a1)) (upd (q_wy (s_wx x (upd (q_wx x) (q_wc x).toNatClampNeg a1))) (q_wc (s_wx x (upd (q_wx x) (q_wc x).toNatClampNeg a1))).toNatClampNeg a2))).toNatClampNeg a3)))) (C := R_Win) (T := F_Win) (N := 4) hx hb hbw in_Win hown hK hP 8 rfl rfl 3 (by decide) (hbw _ w_181) (fun _ h9 => h9) rfl d_Win_add_43 ?_
    refine lv_iconst (v := 1) hx hb d_Win_add_46 (by decide) ?_
    refine lv_iadd hx hb d_Win_add_47 ?_
    refine va_put (D := (dC, dI)) (ci := 7) (v := .int ((q_wc (s_wz (s_wy (s_wx x (upd (q_wx x) (q_wc x).toNatClampNeg a1)) (upd (q_wy (s_wx x (upd (q_wx x) (q_wc x).toNatClampNeg a1))) (q_wc (s_wx x (upd (q_wx x) (q_wc x).toNatClampNeg a1))).toNatClampNeg a2)) (upd (q_wz (s_wy (s_wx x (upd (q_wx x) (q_wc x).toNatClampNeg a1)) (upd (q_wy (s_wx x (upd (q_wx x) (q_wc x).toNatClampNeg a1))) (q_wc (s_wx x (upd (q_wx x) (q_wc x).toNatClampNeg a1))).toNatClampNeg a2))) (q_wc (s_wy (s_wx x (upd (q_wx x) (q_wc x).toNatClampNeg a1)) (upd (q_wy (s_wx x (upd (q_wx x) (q_wc x).toNatClampNeg a1))) (q_wc (s_wx x (upd (q_wx x) (q_wc x).toNatClampNeg a1))).toNatClampNeg a2))).toNatClampNeg a3))) + 1)) (ty := .int) (C := R_Win) (T := F_Win) (N := 4) hx hb hbw in_Win t_Win t_Win_ok n_Win hown hK hP hD hS 8 rfl rfl 3 (by decide) (hbw _ w_181) (fun _ h9 => h9) rfl (by decide +kernel) rfl rfl (Nat.le_of_ble_eq_true rfl) d_Win_add_48 (fun H locs hP hD hS => ?_)
    rw [wC_s_wc] at hP hD
    refine lv_aload_n hx hb d_Win_add_51 rfl (lv_at hl 0 rfl) ?_
    refine va_get (D := (dC, dI)) (ci := 7) (v := .int (q_wc (s_wc (s_wz (s_wy (s_wx x (upd (q_wx x) (q_wc x).toNatClampNeg a1)) (upd (q_wy (s_wx x (upd (q_wx x) (q_wc x).toNatClampNeg a1))) (q_wc (s_wx x (upd (q_wx x) (q_wc x).toNatClampNeg a1))).toNatClampNeg a2)) (upd (q_wz (s_wy (s_wx x (upd (q_wx x) (q_wc x).toNatClampNeg a1)) (upd (q_wy (s_wx x (upd (q_wx x) (q_wc x).toNatClampNeg a1))) (q_wc (s_wx x (upd (q_wx x) (q_wc x).toNatClampNeg a1))).toNatClampNeg a2))) (q_wc (s_wy (s_wx x (upd (q_wx x) (q_wc x).toNatClampNeg a1)) (upd (q_wy (s_wx x (upd (q_wx x) (q_wc x).toNatClampNeg a1))) (q_wc (s_wx x (upd (q_wx x) (q_wc x).toNatClampNeg a1))).toNatClampNeg a2))).toNatClampNeg a3)) ((q_wc (s_wz (s_wy (s_wx x (upd (q_wx x) (q_wc x).toNatClampNeg a1)) (upd (q_wy (s_wx x (upd (q_wx x) (q_wc x).toNatClampNeg a1))) (q_wc (s_wx x (upd (q_wx x) (q_wc x).toNatClampNeg a1))).toNatClampNeg a2)) (upd (q_wz (s_wy (s_wx x (upd (q_wx x) (q_wc x).toNatClampNeg a1)) (upd (q_wy (s_wx x (upd (q_wx x) (q_wc x).toNatClampNeg a1))) (q_wc (s_wx x (upd (q_wx x) (q_wc x).toNatClampNeg a1))).toNatClampNeg a2))) (q_wc (s_wy (s_wx x (upd (q_wx x) (q_wc x).toNatClampNeg a1)) (upd (q_wy (s_wx x (upd (q_wx x) (q_wc x).toNatClampNeg a1))) (q_wc (s_wx x (upd (q_wx x) (q_wc x).toNatClampNeg a1))).toNatClampNeg a2))).toNatClampNeg a3))) + 1)))) (C := R_Win) (T := F_Win) (N := 4) hx hb hbw in_Win hown hK hP 8 rfl rfl 3 (by decide) (hbw _ w_181) (fun _ h9 => h9) rfl d_Win_add_52 ?_
    refine lv_iconst (v := 1) hx hb d_Win_add_55 (by decide) ?_
    refine lv_isub hx hb d_Win_add_56 ?_
    have hg : g_Win_add x a1 a2 a3 = ((q_wc (s_wc (s_wz (s_wy (s_wx x (upd (q_wx x) (q_wc x).toNatClampNeg a1)) (upd (q_wy (s_wx x (upd (q_wx x) (q_wc x).toNatClampNeg a1))) (q_wc (s_wx x (upd (q_wx x) (q_wc x).toNatClampNeg a1))).toNatClampNeg a2)) (upd (q_wz (s_wy (s_wx x (upd (q_wx x) (q_wc x).toNatClampNeg a1)) (upd (q_wy (s_wx x (upd (q_wx x) (q_wc x).toNatClampNeg a1))) (q_wc (s_wx x (upd (q_wx x) (q_wc x).toNatClampNeg a1))).toNatClampNeg a2))) (q_wc (s_wy (s_wx x (upd (q_wx x) (q_wc x).toNatClampNeg a1)) (upd (q_wy (s_wx x (upd (q_wx x) (q_wc x).toNatClampNeg a1))) (q_wc (s_wx x (upd (q_wx x) (q_wc x).toNatClampNeg a1))).toNatClampNeg a2))).toNatClampNeg a3)) ((q_wc (s_wz (s_wy (s_wx x (upd (q_wx x) (q_wc x).toNatClampNeg a1)) (upd (q_wy (s_wx x (upd (q_wx x) (q_wc x).toNatClampNeg a1))) (q_wc (s_wx x (upd (q_wx x) (q_wc x).toNatClampNeg a1))).toNatClampNeg a2)) (upd (q_wz (s_wy (s_wx x (upd (q_wx x) (q_wc x).toNatClampNeg a1)) (upd (q_wy (s_wx x (upd (q_wx x) (q_wc x).toNatClampNeg a1))) (q_wc (s_wx x (upd (q_wx x) (q_wc x).toNatClampNeg a1))).toNatClampNeg a2))) (q_wc (s_wy (s_wx x (upd (q_wx x) (q_wc x).toNatClampNeg a1)) (upd (q_wy (s_wx x (upd (q_wx x) (q_wc x).toNatClampNeg a1))) (q_wc (s_wx x (upd (q_wx x) (q_wc x).toNatClampNeg a1))).toNatClampNeg a2))).toNatClampNeg a3))) + 1))) - 1, s_wc (s_wz (s_wy (s_wx x (upd (q_wx x) (q_wc x).toNatClampNeg a1)) (upd (q_wy (s_wx x (upd (q_wx x) (q_wc x).toNatClampNeg a1))) (q_wc (s_wx x (upd (q_wx x) (q_wc x).toNatClampNeg a1))).toNatClampNeg a2)) (upd (q_wz (s_wy (s_wx x (upd (q_wx x) (q_wc x).toNatClampNeg a1)) (upd (q_wy (s_wx x (upd (q_wx x) (q_wc x).toNatClampNeg a1))) (q_wc (s_wx x (upd (q_wx x) (q_wc x).toNatClampNeg a1))).toNatClampNeg a2))) (q_wc (s_wy (s_wx x (upd (q_wx x) (q_wc x).toNatClampNeg a1)) (upd (q_wy (s_wx x (upd (q_wx x) (q_wc x).toNatClampNeg a1))) (q_wc (s_wx x (upd (q_wx x) (q_wc x).toNatClampNeg a1))).toNatClampNeg a2))).toNatClampNeg a3)) ((q_wc (s_wz (s_wy (s_wx x (upd (q_wx x) (q_wc x).toNatClampNeg a1)) (upd (q_wy (s_wx x (upd (q_wx x) (q_wc x).toNatClampNeg a1))) (q_wc (s_wx x (upd (q_wx x) (q_wc x).toNatClampNeg a1))).toNatClampNeg a2)) (upd (q_wz (s_wy (s_wx x (upd (q_wx x) (q_wc x).toNatClampNeg a1)) (upd (q_wy (s_wx x (upd (q_wx x) (q_wc x).toNatClampNeg a1))) (q_wc (s_wx x (upd (q_wx x) (q_wc x).toNatClampNeg a1))).toNatClampNeg a2))) (q_wc (s_wy (s_wx x (upd (q_wx x) (q_wc x).toNatClampNeg a1)) (upd (q_wy (s_wx x (upd (q_wx x) (q_wc x).toNatClampNeg a1))) (q_wc (s_wx x (upd (q_wx x) (q_wc x).toNatClampNeg a1))).toNatClampNeg a2))).toNatClampNeg a3))) + 1)) := by unfold g_Win_add; rw [if_pos c_1]
    exact W.toX (W.iret (v := (q_wc (s_wc (s_wz (s_wy (s_wx x (upd (q_wx x) (q_wc x).toNatClampNeg a1)) (upd (q_wy (s_wx x (upd (q_wx x) (q_wc x).toNatClampNeg a1))) (q_wc (s_wx x (upd (q_wx x) (q_wc x).toNatClampNeg a1))).toNatClampNeg a2)) (upd (q_wz (s_wy (s_wx x (upd (q_wx x) (q_wc x).toNatClampNeg a1)) (upd (q_wy (s_wx x (upd (q_wx x) (q_wc x).toNatClampNeg a1))) (q_wc (s_wx x (upd (q_wx x) (q_wc x).toNatClampNeg a1))).toNatClampNeg a2))) (q_wc (s_wy (s_wx x (upd (q_wx x) (q_wc x).toNatClampNeg a1)) (upd (q_wy (s_wx x (upd (q_wx x) (q_wc x).toNatClampNeg a1))) (q_wc (s_wx x (upd (q_wx x) (q_wc x).toNatClampNeg a1))).toNatClampNeg a2))).toNatClampNeg a3)) ((q_wc (s_wz (s_wy (s_wx x (upd (q_wx x) (q_wc x).toNatClampNeg a1)) (upd (q_wy (s_wx x (upd (q_wx x) (q_wc x).toNatClampNeg a1))) (q_wc (s_wx x (upd (q_wx x) (q_wc x).toNatClampNeg a1))).toNatClampNeg a2)) (upd (q_wz (s_wy (s_wx x (upd (q_wx x) (q_wc x).toNatClampNeg a1)) (upd (q_wy (s_wx x (upd (q_wx x) (q_wc x).toNatClampNeg a1))) (q_wc (s_wx x (upd (q_wx x) (q_wc x).toNatClampNeg a1))).toNatClampNeg a2))) (q_wc (s_wy (s_wx x (upd (q_wx x) (q_wc x).toNatClampNeg a1)) (upd (q_wy (s_wx x (upd (q_wx x) (q_wc x).toNatClampNeg a1))) (q_wc (s_wx x (upd (q_wx x) (q_wc x).toNatClampNeg a1))).toNatClampNeg a2))).toNatClampNeg a3))) + 1))) - 1) hx hb hr (fun t ht hW => ⟨by rw [hg], ⟨by rw [ht, hg]; exact hP, va_K.moved hW.alike hK, hN.warm hW⟩, hS.F ht⟩) hS.2.2 d_Win_add_57)
  · refine lv_iconst (v := (-1)) hx hb d_Win_add_9 (by decide) ?_
    have hg : g_Win_add x a1 a2 a3 = ((-1), x) := by unfold g_Win_add; rw [if_neg c_1]
    exact W.toX (W.iret (v := (-1)) hx hb hr (fun t ht hW => ⟨by rw [hg], ⟨by rw [ht, hg]; exact hP, va_K.moved hW.alike hK, hN.warm hW⟩, hS.F ht⟩) hS.2.2 d_Win_add_10)
def g_Rooms_setHazards (x : ST) (a1 a2 : Int32) : Int32 × ST := if (f_Rooms_has x a1) = 0 then (0, x) else (0, s_hz x (upd (q_hz x) a1.toNatClampNeg a2))
set_option maxHeartbeats 4000000 in
set_option maxRecDepth 100000 in
theorem u_Rooms_setHazards (l : Launch) (dC : Nat → ClassId) (dI : Nat → Nat → Nat) (cI cZ : ClassId) (ad : Nat → Nat) (hj : aInj 29 ad) (x : ST) (hI : CIn x) (sz : Nat) (a1 a2 : Int32) : MX l y_Rooms_setHazards (Cond.code y_Rooms_setHazards b_Rooms_setHazards 3 none :: BW) { frames := 1, cells := 0, slots := 0, locals := 21 } (PCZ sz (dC, dI) [(cI, .int), (cZ, .boolean)] (wC cI cZ ad x) [.ref (ad 1), .int a1, .int a2]) (UQ none (WB (dC, dI) [(cI, .int), (cZ, .boolean)] (wC cI cZ ad (g_Rooms_setHazards x a1 a2).2)) (aC 29 ad sz)) 0 0 (aC 29 ad sz) := by
  refine MX.ofW (cc := b_Rooms_setHazards) (maxL := 3) (ret := none) (by decide) rfl ?_
  intro p e s m args below meth c s₁ B hml hex hv
  obtain ⟨hsz, rfl, hP, hK, hN⟩ := hv
  subst hsz
  have hx := B.exec
  have hb := B.bytes
  have hr := B.returns
  have hts := atoms_spec (ws := Cond.code y_Rooms_setHazards b_Rooms_setHazards 3 none :: BW) B.pre
  have hbw : ∀ w ∈ BW, w.before ([.ref (ad 1), .int a1, .int a2]).toArray s = true := fun w h => hts w (List.mem_cons_of_mem _ h)
  have hown : s.vm.findClass "PlanRows$Rooms" = some m.cls := findClass_of_methodNamed B.named
  have hlocks := B.notSynchronized
  have hDx : ∀ z, va_D (aC 29 ad s.heap.size) (wC cI cZ ad z) := fun z => w_D hj (wC_ad cI cZ ad z) _
  have hA : ∀ H : Heap, s.heap.size ≤ H.size → ∀ q, aC 29 ad H.size q → aC 29 ad s.heap.size q := fun H h => aC_le h
  generalize aC 29 ad s.heap.size = A at hDx hA ⊢
  have hD := hDx x
  have hS : va_S A s.heap s.heap [] := va_S.rf
  have hI0 := hI
  have hl := lv_entry ([.ref (ad 1), .int a1, .int a2]) (n := 3) (Nat.le_of_ble_eq_true rfl)
  rw [lg_entry_eq]
  generalize (lg_sl ([.ref (ad 1), .int a1, .int a2]) ++ List.replicate (3 - (lg_sl ([.ref (ad 1), .int a1, .int a2])).length) Slot.unset).toArray = ls at hl ⊢
  obtain ⟨H, hH⟩ : ∃ H, H = s.heap := ⟨_, rfl⟩
  obtain ⟨locs, hlocs⟩ : ∃ locs : List Loc, locs = [] := ⟨_, rfl⟩
  have hP : va_P (dC, dI) clsA (wC cI cZ ad x) H := by rw [hH]; exact hP
  have hS : va_S A s.heap H locs := by rw [hH, hlocs]; exact hS
  rw [← hlocs]
  have hW0 : ∀ (R : Room) (Q : State → Prop) (g : JFrame), W p l e R s m ([.ref (ad 1), .int a1, .int a2]).toArray below meth c H locs 0 0 Q g → W p l e R s m ([.ref (ad 1), .int a1, .int a2]).toArray below meth c s.heap locs 0 0 Q g := fun R Q g h => by rw [← hH]; exact h
  refine hW0 _ _ _ ?_
  have hl : lv_has ls 3 [(0, .ref (ad 1)), (1, .int a1), (2, .int a2)] := hl
  refine lv_aload_n hx hb d_Rooms_setHazards_0 rfl (lv_at hl 0 rfl) ?_
  refine lv_iload_n hx hb d_Rooms_setHazards_1 rfl (lv_at hl 1 rfl) ?_
  refine xv (As := [.int a1]) (rest := []) (C := "PlanRows$Rooms") ⟨hx, hb, hml, hown, hts⟩ (c_Rooms_has l dC dI cI cZ ad x hI a1) (cw_Rooms_25 hts rfl rfl ⟨Nat.le_of_ble_eq_true rfl, Nat.le_of_ble_eq_true rfl⟩) hK hN hP 1 rfl rfl rfl rfl hl.1 rfl (Nat.le_of_ble_eq_true rfl) d_Rooms_setHazards_2 ⟨Nat.zero_le _, Nat.zero_le _⟩ ?_
  refine lv_if_eq (tgt := 15) hx hb d_Rooms_setHazards_5 (by decide) (fun c_1 => ?_) (fun c_1 => ?_)
  · have hg : g_Rooms_setHazards x a1 a2 = (0, x) := by unfold g_Rooms_setHazards; rw [if_pos c_1]
    exact W.toX (W.vret hx hb hr (fun t ht hW => ⟨rfl, ⟨by rw [ht, hg]; exact hP, va_K.moved hW.alike hK, hN.warm hW⟩, hS.F ht⟩) hS.2.2 d_Rooms_setHazards_15)
  · refine lv_aload_n hx hb d_Rooms_setHazards_8 rfl (lv_at hl 0 rfl) ?_
    refine va_get (D := (dC, dI)) (ci := 4) (v := .ref (ad 11)) (C := R_Rooms) (T := F_Rooms) (N := 4) hx hb hbw in_Rooms hown hK hP 1 rfl rfl 2 (by decide) (hbw _ w_36) (fun _ h9 => h9) rfl d_Rooms_setHazards_9 ?_
    refine lv_iload_n hx hb d_Rooms_setHazards_12 rfl (lv_at hl 1 rfl) ?_
    refine lv_iload_n hx hb d_Rooms_setHazards_13 rfl (lv_at hl 2 rfl) ?_
    refine va_iast hx hb hK hP hD hS 11 0 rfl rfl (ix_rooms hI c_1) d_Rooms_setHazards_14 (fun H locs hP hD hS => ?_)
    rw [wC_s_hz] at hP hD
    have hg : g_Rooms_setHazards x a1 a2 = (0, s_hz x (upd (q_hz x) a1.toNatClampNeg a2)) := by unfold g_Rooms_setHazards; rw [if_neg c_1]
    exact W.toX (W.vret hx hb hr (fun t ht hW => ⟨rfl, ⟨by rw [ht, hg]; exact hP, va_K.moved hW.alike hK, hN.warm hW⟩, hS.F ht⟩) hS.2.2 d_Rooms_setHazards_15)
def g_Keys_put (x : ST) (a1 a2 : Int32) : Int32 × ST := if (f_Keys_has x a1) = 0 then (0, x) else (if ((q_kh x) a1.toNatClampNeg) = a2 then (0, x) else (if a2 = 0 then (0, s_kn (s_kh x (upd (q_kh x) a1.toNatClampNeg (vp_nar .boolean a2))) ((q_kn (s_kh x (upd (q_kh x) a1.toNatClampNeg (vp_nar .boolean a2)))) + (-1))) else (0, s_kn (s_kh x (upd (q_kh x) a1.toNatClampNeg (vp_nar .boolean a2))) ((q_kn (s_kh x (upd (q_kh x) a1.toNatClampNeg (vp_nar .boolean a2)))) + 1))))
set_option maxHeartbeats 4000000 in
set_option maxRecDepth 100000 in
theorem u_Keys_put (l : Launch) (dC : Nat → ClassId) (dI : Nat → Nat → Nat) (cI cZ : ClassId) (ad : Nat → Nat) (hj : aInj 29 ad) (x : ST) (hI : CIn x) (sz : Nat) (a1 a2 : Int32) : MX l y_Keys_put (Cond.code y_Keys_put b_Keys_put 3 none :: BW) { frames := 1, cells := 0, slots := 0, locals := 21 } (PCZ sz (dC, dI) [(cI, .int), (cZ, .boolean)] (wC cI cZ ad x) [.ref (ad 3), .int a1, .int a2]) (UQ none (WB (dC, dI) [(cI, .int), (cZ, .boolean)] (wC cI cZ ad (g_Keys_put x a1 a2).2)) (aC 29 ad sz)) 0 0 (aC 29 ad sz) := by
  refine MX.ofW (cc := b_Keys_put) (maxL := 3) (ret := none) (by decide) rfl ?_
  intro p e s m args below meth c s₁ B hml hex hv
  obtain ⟨hsz, rfl, hP, hK, hN⟩ := hv
  subst hsz
  have hx := B.exec
  have hb := B.bytes
  have hr := B.returns
  have hts := atoms_spec (ws := Cond.code y_Keys_put b_Keys_put 3 none :: BW) B.pre
  have hbw : ∀ w ∈ BW, w.before ([.ref (ad 3), .int a1, .int a2]).toArray s = true := fun w h => hts w (List.mem_cons_of_mem _ h)
  have hown : s.vm.findClass "PlanRows$KeyRing" = some m.cls := findClass_of_methodNamed B.named
  have hlocks := B.notSynchronized
  have hDx : ∀ z, va_D (aC 29 ad s.heap.size) (wC cI cZ ad z) := fun z => w_D hj (wC_ad cI cZ ad z) _
  have hA : ∀ H : Heap, s.heap.size ≤ H.size → ∀ q, aC 29 ad H.size q → aC 29 ad s.heap.size q := fun H h => aC_le h
  generalize aC 29 ad s.heap.size = A at hDx hA ⊢
  have hD := hDx x
  have hS : va_S A s.heap s.heap [] := va_S.rf
  have hI0 := hI
  have hl := lv_entry ([.ref (ad 3), .int a1, .int a2]) (n := 3) (Nat.le_of_ble_eq_true rfl)
  rw [lg_entry_eq]
  generalize (lg_sl ([.ref (ad 3), .int a1, .int a2]) ++ List.replicate (3 - (lg_sl ([.ref (ad 3), .int a1, .int a2])).length) Slot.unset).toArray = ls at hl ⊢
  obtain ⟨H, hH⟩ : ∃ H, H = s.heap := ⟨_, rfl⟩
  obtain ⟨locs, hlocs⟩ : ∃ locs : List Loc, locs = [] := ⟨_, rfl⟩
  have hP : va_P (dC, dI) clsA (wC cI cZ ad x) H := by rw [hH]; exact hP
  have hS : va_S A s.heap H locs := by rw [hH, hlocs]; exact hS
  rw [← hlocs]
  have hW0 : ∀ (R : Room) (Q : State → Prop) (g : JFrame), W p l e R s m ([.ref (ad 3), .int a1, .int a2]).toArray below meth c H locs 0 0 Q g → W p l e R s m ([.ref (ad 3), .int a1, .int a2]).toArray below meth c s.heap locs 0 0 Q g := fun R Q g h => by rw [← hH]; exact h
  refine hW0 _ _ _ ?_
  have hl : lv_has ls 3 [(0, .ref (ad 3)), (1, .int a1), (2, .int a2)] := hl
  refine lv_aload_n hx hb d_Keys_put_0 rfl (lv_at hl 0 rfl) ?_
  refine lv_iload_n hx hb d_Keys_put_1 rfl (lv_at hl 1 rfl) ?_
  refine xv (As := [.int a1]) (rest := []) (C := "PlanRows$KeyRing") ⟨hx, hb, hml, hown, hts⟩ (c_Keys_has l dC dI cI cZ ad x hI a1) (cw_Keys_15 hts rfl rfl ⟨Nat.le_of_ble_eq_true rfl, Nat.le_of_ble_eq_true rfl⟩) hK hN hP 3 rfl rfl rfl rfl hl.1 rfl (Nat.le_of_ble_eq_true rfl) d_Keys_put_2 ⟨Nat.zero_le _, Nat.zero_le _⟩ ?_
  refine lv_if_eq (tgt := 43) hx hb d_Keys_put_5 (by decide) (fun c_1 => ?_) (fun c_1 => ?_)
  · have hg : g_Keys_put x a1 a2 = (0, x) := by unfold g_Keys_put; rw [if_pos c_1]
    exact W.toX (W.vret hx hb hr (fun t ht hW => ⟨rfl, ⟨by rw [ht, hg]; exact hP, va_K.moved hW.alike hK, hN.warm hW⟩, hS.F ht⟩) hS.2.2 d_Keys_put_43)
  · refine lv_aload_n hx hb d_Keys_put_8 rfl (lv_at hl 0 rfl) ?_
    refine va_get (D := (dC, dI)) (ci := 3) (v := .ref (ad 16)) (C := R_Keys) (T := F_Keys) (N := 2) hx hb hbw in_Keys hown hK hP 3 rfl rfl 0 (by decide) (hbw _ w_80) (fun _ h9 => h9) rfl d_Keys_put_9 ?_
    refine lv_iload_n hx hb d_Keys_put_12 rfl (lv_at hl 1 rfl) ?_
    refine va_zald hx hb hK hP 16 1 rfl rfl (ix_keys c_1) d_Keys_put_13 ?_
    refine lv_iload_n hx hb d_Keys_put_14 rfl (lv_at hl 2 rfl) ?_
    refine lv_icmp_eq (tgt := 43) hx hb d_Keys_put_15 (by decide) (fun c_2 => ?_) (fun c_2 => ?_)
    · have hg : g_Keys_put x a1 a2 = (0, x) := by unfold g_Keys_put; rw [if_neg c_1, if_pos c_2]
      exact W.toX (W.vret hx hb hr (fun t ht hW => ⟨rfl, ⟨by rw [ht, hg]; exact hP, va_K.moved hW.alike hK, hN.warm hW⟩, hS.F ht⟩) hS.2.2 d_Keys_put_43)
    · refine lv_aload_n hx hb d_Keys_put_18 rfl (lv_at hl 0 rfl) ?_
      refine va_get (D := (dC, dI)) (ci := 3) (v := .ref (ad 16)) (C := R_Keys) (T := F_Keys) (N := 2) hx hb hbw in_Keys hown hK hP 3 rfl rfl 0 (by decide) (hbw _ w_80) (fun _ h9 => h9) rfl d_Keys_put_19 ?_
      refine lv_iload_n hx hb d_Keys_put_22 rfl (lv_at hl 1 rfl) ?_
      refine lv_iload_n hx hb d_Keys_put_23 rfl (lv_at hl 2 rfl) ?_
      refine va_zast hx hb hK hP hD hS 16 1 rfl rfl (ix_keys c_1) d_Keys_put_24 (fun H locs hP hD hS => ?_)
      rw [wC_s_kh] at hP hD
      refine lv_aload_n hx hb d_Keys_put_25 rfl (lv_at hl 0 rfl) ?_
      refine lv_dup hx hb d_Keys_put_26 rfl ?_
      refine va_get (D := (dC, dI)) (ci := 3) (v := .int (q_kn (s_kh x (upd (q_kh x) a1.toNatClampNeg (vp_nar .boolean a2))))) (C := R_Keys) (T := F_Keys) (N := 2) hx hb hbw in_Keys hown hK hP 3 rfl rfl 1 (by decide) (hbw _ w_81) (fun _ h9 => h9) rfl d_Keys_put_27 ?_
      refine lv_iload_n hx hb d_Keys_put_30 rfl (lv_at hl 2 rfl) ?_
      refine lv_if_eq (tgt := 38) hx hb d_Keys_put_31 (by decide) (fun c_3 => ?_) (fun c_3 => ?_)
      · refine lv_iconst (v := (-1)) hx hb d_Keys_put_38 (by decide) ?_
        refine lv_iadd hx hb d_Keys_put_39 ?_
        refine va_put (D := (dC, dI)) (ci := 3) (v := .int ((q_kn (s_kh x (upd (q_kh x) a1.toNatClampNeg (vp_nar .boolean a2)))) + (-1))) (ty := .int) (C := R_Keys) (T := F_Keys) (N := 2) hx hb hbw in_Keys t_Keys t_Keys_ok n_Keys hown hK hP hD hS 3 rfl rfl 1 (by decide) (hbw _ w_81) (fun _ h9 => h9) rfl (by decide +kernel) rfl rfl (Nat.le_of_ble_eq_true rfl) d_Keys_put_40 (fun H locs hP hD hS => ?_)
        rw [wC_s_kn] at hP hD
        have hg : g_Keys_put x a1 a2 = (0, s_kn (s_kh x (upd (q_kh x) a1.toNatClampNeg (vp_nar .boolean a2))) ((q_kn (s_kh x (upd (q_kh x) a1.toNatClampNeg (vp_nar .boolean a2)))) + (-1))) := by unfold g_Keys_put; rw [if_neg c_1, if_neg c_2, if_pos c_3]
        exact W.toX (W.vret hx hb hr (fun t ht hW => ⟨rfl, ⟨by rw [ht, hg]; exact hP, va_K.moved hW.alike hK, hN.warm hW⟩, hS.F ht⟩) hS.2.2 d_Keys_put_43)
      · refine lv_iconst (v := 1) hx hb d_Keys_put_34 (by decide) ?_
        refine lv_goto (tgt := 39) hx hb d_Keys_put_35 (by decide) ?_
        refine lv_iadd hx hb d_Keys_put_39 ?_
        refine va_put (D := (dC, dI)) (ci := 3) (v := .int ((q_kn (s_kh x (upd (q_kh x) a1.toNatClampNeg (vp_nar .boolean a2)))) + 1)) (ty := .int) (C := R_Keys) (T := F_Keys) (N := 2) hx hb hbw in_Keys t_Keys t_Keys_ok n_Keys hown hK hP hD hS 3 rfl rfl 1 (by decide) (hbw _ w_81) (fun _ h9 => h9) rfl (by decide +kernel) rfl rfl (Nat.le_of_ble_eq_true rfl) d_Keys_put_40 (fun H locs hP hD hS => ?_)
        rw [wC_s_kn] at hP hD
        have hg : g_Keys_put x a1 a2 = (0, s_kn (s_kh x (upd (q_kh x) a1.toNatClampNeg (vp_nar .boolean a2))) ((q_kn (s_kh x (upd (q_kh x) a1.toNatClampNeg (vp_nar .boolean a2)))) + 1)) := by unfold g_Keys_put; rw [if_neg c_1, if_neg c_2, if_neg c_3]
        exact W.toX (W.vret hx hb hr (fun t ht hW => ⟨rfl, ⟨by rw [ht, hg]; exact hP, va_K.moved hW.alike hK, hN.warm hW⟩, hS.F ht⟩) hS.2.2 d_Keys_put_43)
def g_Route_restart (x : ST) (a1 a2 : Int32) : Int32 × ST := (0, s_re (s_rs (s_rl x 0) a2) a1)
set_option maxHeartbeats 4000000 in
set_option maxRecDepth 100000 in
theorem u_Route_restart (l : Launch) (dC : Nat → ClassId) (dI : Nat → Nat → Nat) (cI cZ : ClassId) (ad : Nat → Nat) (hj : aInj 29 ad) (x : ST) (hI : CIn x) (sz : Nat) (a1 a2 : Int32) : MX l y_Route_restart (Cond.code y_Route_restart b_Route_restart 3 none :: BW) { frames := 0, cells := 0, slots := 0, locals := 0 } (PCZ sz (dC, dI) [(cI, .int), (cZ, .boolean)] (wC cI cZ ad x) [.ref (ad 5), .int a1, .int a2]) (UQ none (WB (dC, dI) [(cI, .int), (cZ, .boolean)] (wC cI cZ ad (g_Route_restart x a1 a2).2)) (aC 29 ad sz)) 0 0 (aC 29 ad sz) := by
  refine MX.ofW (cc := b_Route_restart) (maxL := 3) (ret := none) (by decide) rfl ?_
  intro p e s m args below meth c s₁ B hml hex hv
  obtain ⟨hsz, rfl, hP, hK, hN⟩ := hv
  subst hsz
  have hx := B.exec
  have hb := B.bytes
  have hr := B.returns
  have hts := atoms_spec (ws := Cond.code y_Route_restart b_Route_restart 3 none :: BW) B.pre
  have hbw : ∀ w ∈ BW, w.before ([.ref (ad 5), .int a1, .int a2]).toArray s = true := fun w h => hts w (List.mem_cons_of_mem _ h)
  have hown : s.vm.findClass "PlanRows$Route" = some m.cls := findClass_of_methodNamed B.named
  have hlocks := B.notSynchronized
  have hDx : ∀ z, va_D (aC 29 ad s.heap.size) (wC cI cZ ad z) := fun z => w_D hj (wC_ad cI cZ ad z) _
  have hA : ∀ H : Heap, s.heap.size ≤ H.size → ∀ q, aC 29 ad H.size q → aC 29 ad s.heap.size q := fun H h => aC_le h
  generalize aC 29 ad s.heap.size = A at hDx hA ⊢
  have hD := hDx x
  have hS : va_S A s.heap s.heap [] := va_S.rf
  have hI0 := hI
  have hl := lv_entry ([.ref (ad 5), .int a1, .int a2]) (n := 3) (Nat.le_of_ble_eq_true rfl)
  rw [lg_entry_eq]
  generalize (lg_sl ([.ref (ad 5), .int a1, .int a2]) ++ List.replicate (3 - (lg_sl ([.ref (ad 5), .int a1, .int a2])).length) Slot.unset).toArray = ls at hl ⊢
  obtain ⟨H, hH⟩ : ∃ H, H = s.heap := ⟨_, rfl⟩
  obtain ⟨locs, hlocs⟩ : ∃ locs : List Loc, locs = [] := ⟨_, rfl⟩
  have hP : va_P (dC, dI) clsA (wC cI cZ ad x) H := by rw [hH]; exact hP
  have hS : va_S A s.heap H locs := by rw [hH, hlocs]; exact hS
  rw [← hlocs]
  have hW0 : ∀ (R : Room) (Q : State → Prop) (g : JFrame), W p l e R s m ([.ref (ad 5), .int a1, .int a2]).toArray below meth c H locs 0 0 Q g → W p l e R s m ([.ref (ad 5), .int a1, .int a2]).toArray below meth c s.heap locs 0 0 Q g := fun R Q g h => by rw [← hH]; exact h
  refine hW0 _ _ _ ?_
  have hl : lv_has ls 3 [(0, .ref (ad 5)), (1, .int a1), (2, .int a2)] := hl
  refine lv_aload_n hx hb d_Route_restart_0 rfl (lv_at hl 0 rfl) ?_
  refine lv_iconst (v := 0) hx hb d_Route_restart_1 (by decide) ?_
  refine va_put (D := (dC, dI)) (ci := 5) (v := .int 0) (ty := .int) (C := R_Route) (T := F_Route) (N := 4) hx hb hbw in_Route t_Route t_Route_ok n_Route hown hK hP hD hS 5 rfl rfl 1 (by decide) (hbw _ w_115) (fun _ h9 => h9) rfl (by decide +kernel) rfl rfl (Nat.le_of_ble_eq_true rfl) d_Route_restart_2 (fun H locs hP hD hS => ?_)
  rw [wC_s_rl] at hP hD
  refine lv_aload_n hx hb d_Route_restart_5 rfl (lv_at hl 0 rfl) ?_
  refine lv_iload_n hx hb d_Route_restart_6 rfl (lv_at hl 2 rfl) ?_
  refine va_put (D := (dC, dI)) (ci := 5) (v := .int a2) (ty := .int) (C := R_Route) (T := F_Route) (N := 4) hx hb hbw in_Route t_Route t_Route_ok n_Route hown hK hP hD hS 5 rfl rfl 2 (by decide) (hbw _ w_117) (fun _ h9 => h9) rfl (by decide +kernel) rfl rfl (Nat.le_of_ble_eq_true rfl) d_Route_restart_7 (fun H locs hP hD hS => ?_)
  rw [wC_s_rs] at hP hD
  refine lv_aload_n hx hb d_Route_restart_10 rfl (lv_at hl 0 rfl) ?_
  refine lv_iload_n hx hb d_Route_restart_11 rfl (lv_at hl 1 rfl) ?_
  refine va_put (D := (dC, dI)) (ci := 5) (v := .int a1) (ty := .int) (C := R_Route) (T := F_Route) (N := 4) hx hb hbw in_Route t_Route t_Route_ok n_Route hown hK hP hD hS 5 rfl rfl 3 (by decide) (hbw _ w_119) (fun _ h9 => h9) rfl (by decide +kernel) rfl rfl (Nat.le_of_ble_eq_true rfl) d_Route_restart_12 (fun H locs hP hD hS => ?_)
  rw [wC_s_re] at hP hD
  have hg : g_Route_restart x a1 a2 = (0, s_re (s_rs (s_rl x 0) a2) a1) := rfl
  exact W.toX (W.vret hx hb hr (fun t ht hW => ⟨rfl, ⟨by rw [ht, hg]; exact hP, va_K.moved hW.alike hK, hN.warm hW⟩, hS.F ht⟩) hS.2.2 d_Route_restart_15)
theorem ix_szr {n N : Int32} {M : Nat} (h : 0 ≤ n.toInt ∧ n.toInt ≤ M) (hl : ¬ N ≤ n) (hN : N.toInt = M) : vp_in n M := vp_in_iff.mpr (by
  rw [Int32.le_iff_toInt_le] at hl
  omega)
def g_Route_addBefore (x : ST) (a1 : Int32) : Int32 × ST := if 40 ≤ (q_rl x) then (0, x) else (0, s_rl (s_rd x (upd (q_rd x) (q_rl x).toNatClampNeg a1)) ((q_rl (s_rd x (upd (q_rd x) (q_rl x).toNatClampNeg a1))) + 1))
set_option maxHeartbeats 4000000 in
set_option maxRecDepth 100000 in
theorem u_Route_addBefore (l : Launch) (dC : Nat → ClassId) (dI : Nat → Nat → Nat) (cI cZ : ClassId) (ad : Nat → Nat) (hj : aInj 29 ad) (x : ST) (hI : CIn x) (sz : Nat) (a1 : Int32) : MX l y_Route_addBefore (Cond.code y_Route_addBefore b_Route_addBefore 2 none :: BW) { frames := 0, cells := 0, slots := 0, locals := 0 } (PCZ sz (dC, dI) [(cI, .int), (cZ, .boolean)] (wC cI cZ ad x) [.ref (ad 5), .int a1]) (UQ none (WB (dC, dI) [(cI, .int), (cZ, .boolean)] (wC cI cZ ad (g_Route_addBefore x a1).2)) (aC 29 ad sz)) 0 0 (aC 29 ad sz) := by
  refine MX.ofW (cc := b_Route_addBefore) (maxL := 2) (ret := none) (by decide) rfl ?_
  intro p e s m args below meth c s₁ B hml hex hv
  obtain ⟨hsz, rfl, hP, hK, hN⟩ := hv
  subst hsz
  have hx := B.exec
  have hb := B.bytes
  have hr := B.returns
  have hts := atoms_spec (ws := Cond.code y_Route_addBefore b_Route_addBefore 2 none :: BW) B.pre
  have hbw : ∀ w ∈ BW, w.before ([.ref (ad 5), .int a1]).toArray s = true := fun w h => hts w (List.mem_cons_of_mem _ h)
  have hown : s.vm.findClass "PlanRows$Route" = some m.cls := findClass_of_methodNamed B.named
  have hlocks := B.notSynchronized
  have hDx : ∀ z, va_D (aC 29 ad s.heap.size) (wC cI cZ ad z) := fun z => w_D hj (wC_ad cI cZ ad z) _
  have hA : ∀ H : Heap, s.heap.size ≤ H.size → ∀ q, aC 29 ad H.size q → aC 29 ad s.heap.size q := fun H h => aC_le h
  generalize aC 29 ad s.heap.size = A at hDx hA ⊢
  have hD := hDx x
  have hS : va_S A s.heap s.heap [] := va_S.rf
  have hI0 := hI
  have hl := lv_entry ([.ref (ad 5), .int a1]) (n := 2) (Nat.le_of_ble_eq_true rfl)
  rw [lg_entry_eq]
  generalize (lg_sl ([.ref (ad 5), .int a1]) ++ List.replicate (2 - (lg_sl ([.ref (ad 5), .int a1])).length) Slot.unset).toArray = ls at hl ⊢
  obtain ⟨H, hH⟩ : ∃ H, H = s.heap := ⟨_, rfl⟩
  obtain ⟨locs, hlocs⟩ : ∃ locs : List Loc, locs = [] := ⟨_, rfl⟩
  have hP : va_P (dC, dI) clsA (wC cI cZ ad x) H := by rw [hH]; exact hP
  have hS : va_S A s.heap H locs := by rw [hH, hlocs]; exact hS
  rw [← hlocs]
  have hW0 : ∀ (R : Room) (Q : State → Prop) (g : JFrame), W p l e R s m ([.ref (ad 5), .int a1]).toArray below meth c H locs 0 0 Q g → W p l e R s m ([.ref (ad 5), .int a1]).toArray below meth c s.heap locs 0 0 Q g := fun R Q g h => by rw [← hH]; exact h
  refine hW0 _ _ _ ?_
  have hl : lv_has ls 2 [(0, .ref (ad 5)), (1, .int a1)] := hl
  refine lv_aload_n hx hb d_Route_addBefore_0 rfl (lv_at hl 0 rfl) ?_
  refine va_get (D := (dC, dI)) (ci := 5) (v := .int (q_rl x)) (C := R_Route) (T := F_Route) (N := 4) hx hb hbw in_Route hown hK hP 5 rfl rfl 1 (by decide) (hbw _ w_115) (fun _ h9 => h9) rfl d_Route_addBefore_1 ?_
  refine lv_bipush (v := 40) hx hb d_Route_addBefore_4 (by decide) ?_
  refine lv_icmp_ge (tgt := 29) hx hb d_Route_addBefore_6 (by decide) (fun c_1 => ?_) (fun c_1 => ?_)
  · have hg : g_Route_addBefore x a1 = (0, x) := by unfold g_Route_addBefore; rw [if_pos c_1]
    exact W.toX (W.vret hx hb hr (fun t ht hW => ⟨rfl, ⟨by rw [ht, hg]; exact hP, va_K.moved hW.alike hK, hN.warm hW⟩, hS.F ht⟩) hS.2.2 d_Route_addBefore_29)
  · refine lv_aload_n hx hb d_Route_addBefore_9 rfl (lv_at hl 0 rfl) ?_
    refine va_get (D := (dC, dI)) (ci := 5) (v := .ref (ad 18)) (C := R_Route) (T := F_Route) (N := 4) hx hb hbw in_Route hown hK hP 5 rfl rfl 0 (by decide) (hbw _ w_114) (fun _ h9 => h9) rfl d_Route_addBefore_10 ?_
    refine lv_aload_n hx hb d_Route_addBefore_13 rfl (lv_at hl 0 rfl) ?_
    refine va_get (D := (dC, dI)) (ci := 5) (v := .int (q_rl x)) (C := R_Route) (T := F_Route) (N := 4) hx hb hbw in_Route hown hK hP 5 rfl rfl 1 (by decide) (hbw _ w_115) (fun _ h9 => h9) rfl d_Route_addBefore_14 ?_
    refine lv_iload_n hx hb d_Route_addBefore_17 rfl (lv_at hl 1 rfl) ?_
    refine va_iast hx hb hK hP hD hS 18 0 rfl rfl (ix_szr hI.2.2.2.2.2 c_1 rfl) d_Route_addBefore_18 (fun H locs hP hD hS => ?_)
    rw [wC_s_rd] at hP hD
    refine lv_aload_n hx hb d_Route_addBefore_19 rfl (lv_at hl 0 rfl) ?_
    refine lv_dup hx hb d_Route_addBefore_20 rfl ?_
    refine va_get (D := (dC, dI)) (ci := 5) (v := .int (q_rl (s_rd x (upd (q_rd x) (q_rl x).toNatClampNeg a1)))) (C := R_Route) (T := F_Route) (N := 4) hx hb hbw in_Route hown hK hP 5 rfl rfl 1 (by decide) (hbw _ w_115) (fun _ h9 => h9) rfl d_Route_addBefore_21 ?_
    refine lv_iconst (v := 1) hx hb d_Route_addBefore_24 (by decide) ?_
    refine lv_iadd hx hb d_Route_addBefore_25 ?_
    refine va_put (D := (dC, dI)) (ci := 5) (v := .int ((q_rl (s_rd x (upd (q_rd x) (q_rl x).toNatClampNeg a1))) + 1)) (ty := .int) (C := R_Route) (T := F_Route) (N := 4) hx hb hbw in_Route t_Route t_Route_ok n_Route hown hK hP hD hS 5 rfl rfl 1 (by decide) (hbw _ w_115) (fun _ h9 => h9) rfl (by decide +kernel) rfl rfl (Nat.le_of_ble_eq_true rfl) d_Route_addBefore_26 (fun H locs hP hD hS => ?_)
    rw [wC_s_rl] at hP hD
    have hg : g_Route_addBefore x a1 = (0, s_rl (s_rd x (upd (q_rd x) (q_rl x).toNatClampNeg a1)) ((q_rl (s_rd x (upd (q_rd x) (q_rl x).toNatClampNeg a1))) + 1)) := by unfold g_Route_addBefore; rw [if_neg c_1]
    exact W.toX (W.vret hx hb hr (fun t ht hW => ⟨rfl, ⟨by rw [ht, hg]; exact hP, va_K.moved hW.alike hK, hN.warm hW⟩, hS.F ht⟩) hS.2.2 d_Route_addBefore_29)
def g_Search_lowerCost (x : ST) (a1 a2 a3 a4 : Int32) : Int32 × ST := if (f_Search_isReached x a1) = 0 then (0, x) else (if (f_Rooms_has x a2) = 0 then (0, x) else (if (f_Rooms_hasHazardOf x a2 a4) = 0 then (if (((q_co x) a1.toNatClampNeg) + a3) < ((q_co x) a2.toNatClampNeg) then (1, s_co x (upd (q_co x) a2.toNatClampNeg (((q_co x) a1.toNatClampNeg) + a3))) else (0, x)) else (0, x)))
set_option maxHeartbeats 4000000 in
set_option maxRecDepth 100000 in
theorem u_Search_lowerCost (l : Launch) (dC : Nat → ClassId) (dI : Nat → Nat → Nat) (cI cZ : ClassId) (ad : Nat → Nat) (hj : aInj 29 ad) (x : ST) (hI : CIn x) (sz : Nat) (a1 a2 a3 a4 : Int32) : MX l y_Search_lowerCost (Cond.code y_Search_lowerCost b_Search_lowerCost 6 (some .boolean) :: BW) { frames := 2, cells := 0, slots := 0, locals := 43 } (PCZ sz (dC, dI) [(cI, .int), (cZ, .boolean)] (wC cI cZ ad x) [.ref (ad 4), .int a1, .int a2, .int a3, .int a4]) (UQ (some (.int (g_Search_lowerCost x a1 a2 a3 a4).1)) (WB (dC, dI) [(cI, .int), (cZ, .boolean)] (wC cI cZ ad (g_Search_lowerCost x a1 a2 a3 a4).2)) (aC 29 ad sz)) 0 0 (aC 29 ad sz) := by
  refine MX.ofW (cc := b_Search_lowerCost) (maxL := 6) (ret := (some .boolean)) (by decide) rfl ?_
  intro p e s m args below meth c s₁ B hml hex hv
  obtain ⟨hsz, rfl, hP, hK, hN⟩ := hv
  subst hsz
  have hx := B.exec
  have hb := B.bytes
  have hr := B.returns
  have hts := atoms_spec (ws := Cond.code y_Search_lowerCost b_Search_lowerCost 6 (some .boolean) :: BW) B.pre
  have hbw : ∀ w ∈ BW, w.before ([.ref (ad 4), .int a1, .int a2, .int a3, .int a4]).toArray s = true := fun w h => hts w (List.mem_cons_of_mem _ h)
  have hown : s.vm.findClass "PlanRows$Search" = some m.cls := findClass_of_methodNamed B.named
  have hlocks := B.notSynchronized
  have hDx : ∀ z, va_D (aC 29 ad s.heap.size) (wC cI cZ ad z) := fun z => w_D hj (wC_ad cI cZ ad z) _
  have hA : ∀ H : Heap, s.heap.size ≤ H.size → ∀ q, aC 29 ad H.size q → aC 29 ad s.heap.size q := fun H h => aC_le h
  generalize aC 29 ad s.heap.size = A at hDx hA ⊢
  have hD := hDx x
  have hS : va_S A s.heap s.heap [] := va_S.rf
  have hI0 := hI
  have hl := lv_entry ([.ref (ad 4), .int a1, .int a2, .int a3, .int a4]) (n := 6) (Nat.le_of_ble_eq_true rfl)
  rw [lg_entry_eq]
  generalize (lg_sl ([.ref (ad 4), .int a1, .int a2, .int a3, .int a4]) ++ List.replicate (6 - (lg_sl ([.ref (ad 4), .int a1, .int a2, .int a3, .int a4])).length) Slot.unset).toArray = ls at hl ⊢
  obtain ⟨H, hH⟩ : ∃ H, H = s.heap := ⟨_, rfl⟩
  obtain ⟨locs, hlocs⟩ : ∃ locs : List Loc, locs = [] := ⟨_, rfl⟩
  have hP : va_P (dC, dI) clsA (wC cI cZ ad x) H := by rw [hH]; exact hP
  have hS : va_S A s.heap H locs := by rw [hH, hlocs]; exact hS
  rw [← hlocs]
  have hW0 : ∀ (R : Room) (Q : State → Prop) (g : JFrame), W p l e R s m ([.ref (ad 4), .int a1, .int a2, .int a3, .int a4]).toArray below meth c H locs 0 0 Q g → W p l e R s m ([.ref (ad 4), .int a1, .int a2, .int a3, .int a4]).toArray below meth c s.heap locs 0 0 Q g := fun R Q g h => by rw [← hH]; exact h
  refine hW0 _ _ _ ?_
  have hl : lv_has ls 6 [(0, .ref (ad 4)), (1, .int a1), (2, .int a2), (3, .int a3), (4, .int a4)] := hl
  refine lv_aload_n hx hb d_Search_lowerCost_0 rfl (lv_at hl 0 rfl) ?_
  refine lv_iload_n hx hb d_Search_lowerCost_1 rfl (lv_at hl 1 rfl) ?_
  refine xv (As := [.int a1]) (rest := []) (C := "PlanRows$Search") ⟨hx, hb, hml, hown, hts⟩ (c_Search_isReached l dC dI cI cZ ad x hI a1) (cw_Search_74 hts rfl rfl ⟨Nat.le_of_ble_eq_true rfl, Nat.le_of_ble_eq_true rfl⟩) hK hN hP 4 rfl rfl rfl rfl hl.1 rfl (Nat.le_of_ble_eq_true rfl) d_Search_lowerCost_2 ⟨Nat.zero_le _, Nat.zero_le _⟩ ?_
  refine lv_if_eq (tgt := 32) hx hb d_Search_lowerCost_5 (by decide) (fun c_1 => ?_) (fun c_1 => ?_)
  · refine lv_iconst (v := 0) hx hb d_Search_lowerCost_32 (by decide) ?_
    have hg : g_Search_lowerCost x a1 a2 a3 a4 = (0, x) := by unfold g_Search_lowerCost; rw [if_pos c_1]
    exact W.toX (W.zret (v := 0) (ty := .boolean) hx hb hr (by rfl) (fun t ht hW => ⟨by rw [hg], ⟨by rw [ht, hg]; exact hP, va_K.moved hW.alike hK, hN.warm hW⟩, hS.F ht⟩) hS.2.2 d_Search_lowerCost_33)
  · refine lv_aload_n hx hb d_Search_lowerCost_8 rfl (lv_at hl 0 rfl) ?_
    refine va_get (D := (dC, dI)) (ci := 6) (v := .ref (ad 1)) (C := R_Search) (T := F_Search) (N := 4) hx hb hbw in_Search hown hK hP 4 rfl rfl 0 (by decide) (hbw _ w_95) (fun _ h9 => h9) rfl d_Search_lowerCost_9 ?_
    refine lv_iload_n hx hb d_Search_lowerCost_12 rfl (lv_at hl 2 rfl) ?_
    refine xv (As := [.int a2]) (rest := []) (C := "PlanRows$Rooms") ⟨hx, hb, hml, hown, hts⟩ (c_Rooms_has l dC dI cI cZ ad x hI a2) (cw_Search_34 hts rfl rfl ⟨Nat.le_of_ble_eq_true rfl, Nat.le_of_ble_eq_true rfl⟩) hK hN hP 1 rfl rfl rfl rfl hl.1 rfl (Nat.le_of_ble_eq_true rfl) d_Search_lowerCost_13 ⟨Nat.zero_le _, Nat.zero_le _⟩ ?_
    refine lv_if_eq (tgt := 32) hx hb d_Search_lowerCost_16 (by decide) (fun c_2 => ?_) (fun c_2 => ?_)
    · refine lv_iconst (v := 0) hx hb d_Search_lowerCost_32 (by decide) ?_
      have hg : g_Search_lowerCost x a1 a2 a3 a4 = (0, x) := by unfold g_Search_lowerCost; rw [if_neg c_1, if_pos c_2]
      exact W.toX (W.zret (v := 0) (ty := .boolean) hx hb hr (by rfl) (fun t ht hW => ⟨by rw [hg], ⟨by rw [ht, hg]; exact hP, va_K.moved hW.alike hK, hN.warm hW⟩, hS.F ht⟩) hS.2.2 d_Search_lowerCost_33)
    · refine lv_aload_n hx hb d_Search_lowerCost_19 rfl (lv_at hl 0 rfl) ?_
      refine va_get (D := (dC, dI)) (ci := 6) (v := .ref (ad 1)) (C := R_Search) (T := F_Search) (N := 4) hx hb hbw in_Search hown hK hP 4 rfl rfl 0 (by decide) (hbw _ w_95) (fun _ h9 => h9) rfl d_Search_lowerCost_20 ?_
      refine lv_iload_n hx hb d_Search_lowerCost_23 rfl (lv_at hl 2 rfl) ?_
      refine lv_iload hx hb d_Search_lowerCost_24 (lv_at hl 4 rfl) ?_
      refine xv (As := [.int a2, .int a4]) (rest := []) (C := "PlanRows$Rooms") ⟨hx, hb, hml, hown, hts⟩ (c_Rooms_hasHazardOf l dC dI cI cZ ad x hI a2 a4) (cw_Search_77 hts rfl rfl ⟨Nat.le_of_ble_eq_true rfl, Nat.le_of_ble_eq_true rfl⟩) hK hN hP 1 rfl rfl rfl rfl hl.1 rfl (Nat.le_of_ble_eq_true rfl) d_Search_lowerCost_26 ⟨Nat.zero_le _, Nat.zero_le _⟩ ?_
      refine lv_if_eq (tgt := 34) hx hb d_Search_lowerCost_29 (by decide) (fun c_3 => ?_) (fun c_3 => ?_)
      · refine lv_aload_n hx hb d_Search_lowerCost_34 rfl (lv_at hl 0 rfl) ?_
        refine va_get (D := (dC, dI)) (ci := 6) (v := .ref (ad 17)) (C := R_Search) (T := F_Search) (N := 4) hx hb hbw in_Search hown hK hP 4 rfl rfl 3 (by decide) (hbw _ w_98) (fun _ h9 => h9) rfl d_Search_lowerCost_35 ?_
        refine lv_iload_n hx hb d_Search_lowerCost_38 rfl (lv_at hl 1 rfl) ?_
        refine va_iald hx hb hK hP 17 0 rfl rfl (ix_reached hI c_1) d_Search_lowerCost_39 ?_
        refine lv_iload_n hx hb d_Search_lowerCost_40 rfl (lv_at hl 3 rfl) ?_
        refine lv_iadd hx hb d_Search_lowerCost_41 ?_
        refine lv_istore (lv' := [(5, .int (((q_co x) a1.toNatClampNeg) + a3)), (0, .ref (ad 4)), (1, .int a1), (2, .int a2), (3, .int a3), (4, .int a4)]) hx hb d_Search_lowerCost_42 hl (by decide) rfl (fun ls hl => ?_)
        refine lv_iload hx hb d_Search_lowerCost_44 (lv_at hl 0 rfl) ?_
        refine lv_aload_n hx hb d_Search_lowerCost_46 rfl (lv_at hl 1 rfl) ?_
        refine va_get (D := (dC, dI)) (ci := 6) (v := .ref (ad 17)) (C := R_Search) (T := F_Search) (N := 4) hx hb hbw in_Search hown hK hP 4 rfl rfl 3 (by decide) (hbw _ w_98) (fun _ h9 => h9) rfl d_Search_lowerCost_47 ?_
        refine lv_iload_n hx hb d_Search_lowerCost_50 rfl (lv_at hl 3 rfl) ?_
        refine va_iald hx hb hK hP 17 0 rfl rfl (ix_rooms hI c_2) d_Search_lowerCost_51 ?_
        refine lv_icmp_lt (tgt := 57) hx hb d_Search_lowerCost_52 (by decide) (fun c_4 => ?_) (fun c_4 => ?_)
        · refine lv_aload_n hx hb d_Search_lowerCost_57 rfl (lv_at hl 1 rfl) ?_
          refine va_get (D := (dC, dI)) (ci := 6) (v := .ref (ad 17)) (C := R_Search) (T := F_Search) (N := 4) hx hb hbw in_Search hown hK hP 4 rfl rfl 3 (by decide) (hbw _ w_98) (fun _ h9 => h9) rfl d_Search_lowerCost_58 ?_
          refine lv_iload_n hx hb d_Search_lowerCost_61 rfl (lv_at hl 3 rfl) ?_
          refine lv_iload hx hb d_Search_lowerCost_62 (lv_at hl 0 rfl) ?_
          refine va_iast hx hb hK hP hD hS 17 0 rfl rfl (ix_rooms hI c_2) d_Search_lowerCost_64 (fun H locs hP hD hS => ?_)
          rw [wC_s_co] at hP hD
          refine lv_iconst (v := 1) hx hb d_Search_lowerCost_65 (by decide) ?_
          have hg : g_Search_lowerCost x a1 a2 a3 a4 = (1, s_co x (upd (q_co x) a2.toNatClampNeg (((q_co x) a1.toNatClampNeg) + a3))) := by unfold g_Search_lowerCost; rw [if_neg c_1, if_neg c_2, if_pos c_3, if_pos c_4]
          exact W.toX (W.zret (v := 1) (ty := .boolean) hx hb hr (by rfl) (fun t ht hW => ⟨by rw [hg], ⟨by rw [ht, hg]; exact hP, va_K.moved hW.alike hK, hN.warm hW⟩, hS.F ht⟩) hS.2.2 d_Search_lowerCost_66)
        · refine lv_iconst (v := 0) hx hb d_Search_lowerCost_55 (by decide) ?_
          have hg : g_Search_lowerCost x a1 a2 a3 a4 = (0, x) := by unfold g_Search_lowerCost; rw [if_neg c_1, if_neg c_2, if_pos c_3, if_neg c_4]
          exact W.toX (W.zret (v := 0) (ty := .boolean) hx hb hr (by rfl) (fun t ht hW => ⟨by rw [hg], ⟨by rw [ht, hg]; exact hP, va_K.moved hW.alike hK, hN.warm hW⟩, hS.F ht⟩) hS.2.2 d_Search_lowerCost_56)
      · refine lv_iconst (v := 0) hx hb d_Search_lowerCost_32 (by decide) ?_
        have hg : g_Search_lowerCost x a1 a2 a3 a4 = (0, x) := by unfold g_Search_lowerCost; rw [if_neg c_1, if_neg c_2, if_neg c_3]
        exact W.toX (W.zret (v := 0) (ty := .boolean) hx hb hr (by rfl) (fun t ht hW => ⟨by rw [hg], ⟨by rw [ht, hg]; exact hP, va_K.moved hW.alike hK, hN.warm hW⟩, hS.F ht⟩) hS.2.2 d_Search_lowerCost_33)
