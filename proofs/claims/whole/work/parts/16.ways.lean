theorem pr_fst {α β : Type} (a : α) (b : β) : (a, b).1 = a := rfl
theorem pr_snd {α β : Type} (a : α) (b : β) : (a, b).2 = b := rfl
theorem lp_inc31 {i : Int32} {k : Nat} (hi : 0 ≤ i.toInt ∧ i.toInt ≤ 31 ∧ 31 - i.toInt < ((k + 1 : Nat) : Int)) (hc : ¬ 30 < i) : 0 ≤ (i + 1).toInt ∧ (i + 1).toInt ≤ 31 ∧ 31 - (i + 1).toInt < (k : Int) := by
  rw [Int32.lt_iff_toInt_lt] at hc
  have h2 : (30 : Int32).toInt = 30 := rfl
  have h3 : (1 : Int32).toInt = 1 := rfl
  have e1 : (i + 1).toInt = i.toInt + 1 := by
    rw [Int32.toInt_add, h3]
    exact Int.bmod_eq_of_le (by omega) (by omega)
  omega
theorem co_sfr {x z : ST} (hz : co x z) (a b : Int32) : co x (g_Search_spreadFromRoom z a b).2 := by
  unfold g_Search_spreadFromRoom
  split
  all_goals first | with_reducible exact co_spread (co_fill hz _) _ | with_reducible exact co_spread (co_set (co_fill hz _) _) _
theorem ci_sfr {x : ST} (hI : CIn x) (a b : Int32) : CIn (g_Search_spreadFromRoom x a b).2 := ci_co (co_sfr (co_rf x) a b) hI
theorem co_Lsfk {x : ST} (a1 : Int32) : ∀ (k : Nat) (i : Int32) (z : ST), co x z → co x (L_Search_spreadFromKind a1 k i z).2 := by
  intro k
  induction k with
  | zero => intro i z hz; exact hz
  | succ k ih =>
    intro i z hz
    rw [L_Search_spreadFromKind_s]
    repeat' split
    all_goals first | with_reducible exact ih _ _ (co_set hz _) | with_reducible exact co_spread hz _
theorem ci_sfk {x : ST} (hI : CIn x) (a : Int32) : CIn (g_Search_spreadFromKind x a).2 := ci_co (co_Lsfk a _ _ x (co_rf x)) hI
theorem rt_Ltell {y : ST} (a1 : Int32) : ∀ (k : Nat) (rm i : Int32) (z : ST), rt y z → rt y (L_Search_tellWayTo a1 k rm i z).2 := by
  intro k
  induction k with
  | zero => intro rm i z hz; exact hz
  | succ k ih =>
    intro rm i z hz
    rw [L_Search_tellWayTo_s]
    repeat' split
    all_goals first | with_reducible exact hz | with_reducible exact ih _ _ _ (rt_add hz _)
theorem ci_tell {x : ST} (hI : CIn x) (a : Int32) : CIn (g_Search_tellWayTo x a).2 := ci_rt (rt_Ltell a _ _ _ _ (rt_rf (ci_restart hI _ _))) (ci_restart hI _ _)
theorem nz_len {a : Int32} (h : k_Plan_wantWithin a 1 100 = 0) : ¬ a = 0 := by
  intro e
  rw [e] at h
  exact absurd h (by decide)
def k_Plan_missing (x : ST) (a1 : Int32) : Nat := if k_Plan_wantNotBelowZero a1 = 0 then 0 else 2
set_option maxHeartbeats 400000 in
set_option maxRecDepth 100000 in
theorem t_Plan_missing (l : Launch) (htr : l.stackTraces = false) (dC : Nat → ClassId) (dI : Nat → Nat → Nat) (cI cZ : ClassId) (ad : Nat → Nat) (x : ST) (hI : CIn x) (a1 : Int32) (hk : ¬ k_Plan_missing x a1 = 0) : MX l y_Plan_missing (Cond.code y_Plan_missing b_Plan_missing 4 (some .int) :: BW) { frames := 7, cells := 1, slots := 6, locals := 102 } (PX (dC, dI) [(cI, .int), (cZ, .boolean)] (wC cI cZ ad x) [.ref (ad 0), .int a1]) (TQ (xnm (k_Plan_missing x a1))) 1 6 (fun _ => False) := by
  refine MX.ofW (cc := b_Plan_missing) (maxL := 4) (ret := (some .int)) (by decide) rfl ?_
  intro p e s m args below meth c s₁ B hml hex hv
  obtain ⟨hE, rfl, hP, hK, hN⟩ := hv
  have hx := B.exec
  have hb := B.bytes
  have hr := B.returns
  have hts := atoms_spec (ws := Cond.code y_Plan_missing b_Plan_missing 4 (some .int) :: BW) B.pre
  have hbw : ∀ w ∈ BW, w.before ([.ref (ad 0), .int a1]).toArray s = true := fun w h => hts w (List.mem_cons_of_mem _ h)
  have hown : s.vm.findClass "PlanRows" = some m.cls := findClass_of_methodNamed B.named
  have hlocks := B.notSynchronized
  have hl := lv_entry ([.ref (ad 0), .int a1]) (n := 4) (Nat.le_of_ble_eq_true rfl)
  rw [lg_entry_eq]
  generalize (lg_sl ([.ref (ad 0), .int a1]) ++ List.replicate (4 - (lg_sl ([.ref (ad 0), .int a1])).length) Slot.unset).toArray = ls at hl ⊢
  have hl : lv_has ls 4 [(0, .ref (ad 0)), (1, .int a1)] := hl
  refine lv_iload_n hx hb d_Plan_missing_0 rfl (lv_at hl 1 rfl) ?_
  by_cases c_1 : k_Plan_wantNotBelowZero a1 = 0
  · refine xs (As := [.int a1]) (rest := []) ⟨hx, hb, hml, hown, hts⟩ (c_Plan_wantNotBelowZero l dC dI _ _ a1 c_1) (cw_Plan_146 hts rfl rfl ⟨Nat.le_of_ble_eq_true rfl, Nat.le_of_ble_eq_true rfl⟩) hK hN hP rfl hl.1 rfl (Nat.le_of_ble_eq_true rfl) d_Plan_missing_1 ⟨Nat.zero_le _, Nat.zero_le _⟩ ?_
    refine lv_iload_n hx hb d_Plan_missing_4 rfl (lv_at hl 1 rfl) ?_
    refine lv_istore_n (lv' := [(2, .int a1), (0, .ref (ad 0)), (1, .int a1)]) hx hb d_Plan_missing_5 rfl hl (by decide) rfl (fun ls hl => ?_)
    refine lv_iconst (v := 1) hx hb d_Plan_missing_6 (by decide) ?_
    refine lv_istore_n (lv' := [(3, .int 1), (2, .int a1), (0, .ref (ad 0)), (1, .int a1)]) hx hb d_Plan_missing_7 rfl hl (by decide) rfl (fun ls hl => ?_)
    exact absurd (show k_Plan_missing x a1 = 0 from by unfold k_Plan_missing; rw [if_pos c_1]) hk
  · rw [show k_Plan_missing x a1 = 2 from by unfold k_Plan_missing; rw [if_neg c_1]]
    exact x_thrown (x_runS (As := [.int a1]) (rest := []) ⟨hx, hb, hml, hown, hts⟩ (t_Plan_wantNotBelowZero l htr dC dI _ _ a1 c_1) (cw_Plan_146 hts rfl rfl ⟨Nat.le_of_ble_eq_true rfl, Nat.le_of_ble_eq_true rfl⟩) ⟨PX.blind, PX.at hE hK hN hP⟩ rfl rfl hl.1 rfl (lv_room (Nat.le_of_ble_eq_true rfl)) d_Plan_missing_1 ⟨Nat.le_of_ble_eq_true rfl, Nat.le_of_ble_eq_true rfl⟩) hex hlocks
def L_Plan_missing (x : ST) (a1 : Int32) : Nat → Int32 → Int32 → Int32
  | 0, _, _ => 0
  | k + 1, lft, i => if 30 < i then (-1) else (if (f_Keys_isAtHand x i) = 0 then (if (f_Doors_anyHasKey x i) = 0 then L_Plan_missing x a1 k lft (i + 1) else (if lft = 0 then i else L_Plan_missing x a1 k (lft + (-1)) (i + 1))) else L_Plan_missing x a1 k lft (i + 1))
theorem L_Plan_missing_s (x : ST) (a1 : Int32) (k : Nat) (lft i : Int32) : L_Plan_missing x a1 (k + 1) lft i = if 30 < i then (-1) else (if (f_Keys_isAtHand x i) = 0 then (if (f_Doors_anyHasKey x i) = 0 then L_Plan_missing x a1 k lft (i + 1) else (if lft = 0 then i else L_Plan_missing x a1 k (lft + (-1)) (i + 1))) else L_Plan_missing x a1 k lft (i + 1)) := rfl
def f_Plan_missing (x : ST) (a1 : Int32) : Int32 := if k_Plan_wantNotBelowZero a1 = 0 then (L_Plan_missing x a1 32 a1 1) else 0
set_option maxHeartbeats 400000 in
set_option maxRecDepth 100000 in
theorem c_Plan_missing (l : Launch) (dC : Nat → ClassId) (dI : Nat → Nat → Nat) (cI cZ : ClassId) (ad : Nat → Nat) (x : ST) (hI : CIn x) (a1 : Int32) (hk : k_Plan_missing x a1 = 0) : MX l y_Plan_missing (Cond.code y_Plan_missing b_Plan_missing 4 (some .int) :: BW) { frames := 2, cells := 0, slots := 0, locals := 42 } (PC (dC, dI) [(cI, .int), (cZ, .boolean)] (wC cI cZ ad x) [.ref (ad 0), .int a1]) (PQ (some (.int (f_Plan_missing x a1)))) 0 0 (fun _ => False) := by
  refine MX.ofW (cc := b_Plan_missing) (maxL := 4) (ret := (some .int)) (by decide) rfl ?_
  intro p e s m args below meth c s₁ B hml hex hv
  obtain ⟨rfl, hP, hK, hN⟩ := hv
  have hx := B.exec
  have hb := B.bytes
  have hr := B.returns
  have hts := atoms_spec (ws := Cond.code y_Plan_missing b_Plan_missing 4 (some .int) :: BW) B.pre
  have hbw : ∀ w ∈ BW, w.before ([.ref (ad 0), .int a1]).toArray s = true := fun w h => hts w (List.mem_cons_of_mem _ h)
  have hown : s.vm.findClass "PlanRows" = some m.cls := findClass_of_methodNamed B.named
  have hlocks := B.notSynchronized
  have hl := lv_entry ([.ref (ad 0), .int a1]) (n := 4) (Nat.le_of_ble_eq_true rfl)
  rw [lg_entry_eq]
  generalize (lg_sl ([.ref (ad 0), .int a1]) ++ List.replicate (4 - (lg_sl ([.ref (ad 0), .int a1])).length) Slot.unset).toArray = ls at hl ⊢
  have hl : lv_has ls 4 [(0, .ref (ad 0)), (1, .int a1)] := hl
  refine lv_iload_n hx hb d_Plan_missing_0 rfl (lv_at hl 1 rfl) ?_
  by_cases c_1 : k_Plan_wantNotBelowZero a1 = 0
  · refine xs (As := [.int a1]) (rest := []) ⟨hx, hb, hml, hown, hts⟩ (c_Plan_wantNotBelowZero l dC dI _ _ a1 c_1) (cw_Plan_146 hts rfl rfl ⟨Nat.le_of_ble_eq_true rfl, Nat.le_of_ble_eq_true rfl⟩) hK hN hP rfl hl.1 rfl (Nat.le_of_ble_eq_true rfl) d_Plan_missing_1 ⟨Nat.zero_le _, Nat.zero_le _⟩ ?_
    refine lv_iload_n hx hb d_Plan_missing_4 rfl (lv_at hl 1 rfl) ?_
    refine lv_istore_n (lv' := [(2, .int a1), (0, .ref (ad 0)), (1, .int a1)]) hx hb d_Plan_missing_5 rfl hl (by decide) rfl (fun ls hl => ?_)
    refine lv_iconst (v := 1) hx hb d_Plan_missing_6 (by decide) ?_
    refine lv_istore_n (lv' := [(3, .int 1), (2, .int a1), (0, .ref (ad 0)), (1, .int a1)]) hx hb d_Plan_missing_7 rfl hl (by decide) rfl (fun ls hl => ?_)
    have loop : ∀ (k : Nat) (lft i : Int32) (ls : Array Slot), 0 ≤ i.toInt ∧ i.toInt ≤ 31 ∧ 31 - i.toInt < ((k : Nat) : Int) → f_Plan_missing x a1 = L_Plan_missing x a1 k lft i → lv_has ls 4 [(3, .int i), (2, .int lft), (0, .ref (ad 0)), (1, .int a1)] → W p l e { frames := 2, cells := 0, slots := 0, locals := 42 } s m ([.ref (ad 0), .int a1]).toArray below meth c s.heap [] 0 0 (MQX below (PQ (some (.int (f_Plan_missing x a1)))) ([.ref (ad 0), .int a1]).toArray s 0 0 (fun _ => False)) (F0 m 8 ls []) := by
      intro k
      induction k with
      | zero =>
        intro lft i ls hi hq hl
        obtain ⟨h1, h2, h3⟩ := hi
        omega
      | succ k ih =>
        intro lft i ls hi hq hl
        have hq := hq.trans (L_Plan_missing_s x a1 k lft i)
        refine lv_iload_n hx hb d_Plan_missing_8 rfl (lv_at hl 0 rfl) ?_
        refine lv_bipush (v := 30) hx hb d_Plan_missing_9 (by decide) ?_
        refine lv_icmp_gt (tgt := 51) hx hb d_Plan_missing_11 (by decide) (fun c_2 => ?_) (fun c_2 => ?_)
        · refine lv_iconst (v := (-1)) hx hb d_Plan_missing_51 (by decide) ?_
          exact W.toX (W.iret (v := (-1)) hx hb hr (fun t ht hW => ⟨by rw [show f_Plan_missing x a1 = (-1) from by rw [hq, if_pos c_2]], ht⟩) (fun q hq => by cases hq) d_Plan_missing_52)
        · refine lv_aload_n hx hb d_Plan_missing_14 rfl (lv_at hl 2 rfl) ?_
          refine va_get (D := (dC, dI)) (ci := 8) (v := .ref (ad 3)) (C := R_Plan) (T := F_Plan) (N := 10) hx hb hbw in_Plan hown hK hP 0 rfl rfl 2 (by decide) (hbw _ w_194) (fun _ h9 => h9) rfl d_Plan_missing_15 ?_
          refine lv_iload_n hx hb d_Plan_missing_18 rfl (lv_at hl 0 rfl) ?_
          refine xv (As := [.int i]) (rest := []) (C := "PlanRows$KeyRing") ⟨hx, hb, hml, hown, hts⟩ (c_Keys_isAtHand l dC dI cI cZ ad x hI i) (cw_Plan_120 hts rfl rfl ⟨Nat.le_of_ble_eq_true rfl, Nat.le_of_ble_eq_true rfl⟩) hK hN hP 3 rfl rfl rfl rfl hl.1 rfl (Nat.le_of_ble_eq_true rfl) d_Plan_missing_19 ⟨Nat.zero_le _, Nat.zero_le _⟩ ?_
          refine lv_if_ne (tgt := 45) hx hb d_Plan_missing_22 (by decide) (fun c_3 => ?_) (fun c_3 => ?_)
          · refine lv_iinc (v := i + 1) (lv' := [(3, .int (i + 1)), (2, .int lft), (0, .ref (ad 0)), (1, .int a1)]) hx hb d_Plan_missing_45 hl (k := 0) rfl rfl (by decide) rfl (fun ls hl => ?_)
            refine lv_goto (tgt := 8) hx hb d_Plan_missing_48 (by decide) ?_
            exact ih lft (i + 1) ls (lp_inc31 hi c_2) (by rw [hq, if_neg c_2, if_neg c_3]) (lv_sub hl [0, 1, 2, 3] rfl)
          · refine lv_aload_n hx hb d_Plan_missing_25 rfl (lv_at hl 2 rfl) ?_
            refine va_get (D := (dC, dI)) (ci := 8) (v := .ref (ad 2)) (C := R_Plan) (T := F_Plan) (N := 10) hx hb hbw in_Plan hown hK hP 0 rfl rfl 1 (by decide) (hbw _ w_193) (fun _ h9 => h9) rfl d_Plan_missing_26 ?_
            refine lv_iload_n hx hb d_Plan_missing_29 rfl (lv_at hl 0 rfl) ?_
            refine xv (As := [.int i]) (rest := []) (C := "PlanRows$Doors") ⟨hx, hb, hml, hown, hts⟩ (c_Doors_anyHasKey l dC dI cI cZ ad x hI i) (cw_Plan_169 hts rfl rfl ⟨Nat.le_of_ble_eq_true rfl, Nat.le_of_ble_eq_true rfl⟩) hK hN hP 2 rfl rfl rfl rfl hl.1 rfl (Nat.le_of_ble_eq_true rfl) d_Plan_missing_30 ⟨Nat.zero_le _, Nat.zero_le _⟩ ?_
            refine lv_if_eq (tgt := 45) hx hb d_Plan_missing_33 (by decide) (fun c_4 => ?_) (fun c_4 => ?_)
            · refine lv_iinc (v := i + 1) (lv' := [(3, .int (i + 1)), (2, .int lft), (0, .ref (ad 0)), (1, .int a1)]) hx hb d_Plan_missing_45 hl (k := 0) rfl rfl (by decide) rfl (fun ls hl => ?_)
              refine lv_goto (tgt := 8) hx hb d_Plan_missing_48 (by decide) ?_
              exact ih lft (i + 1) ls (lp_inc31 hi c_2) (by rw [hq, if_neg c_2, if_pos c_3, if_pos c_4]) (lv_sub hl [0, 1, 2, 3] rfl)
            · refine lv_iload_n hx hb d_Plan_missing_36 rfl (lv_at hl 1 rfl) ?_
              refine lv_if_ne (tgt := 42) hx hb d_Plan_missing_37 (by decide) (fun c_5 => ?_) (fun c_5 => ?_)
              · refine lv_iinc (v := lft + (-1)) (lv' := [(2, .int (lft + (-1))), (3, .int i), (0, .ref (ad 0)), (1, .int a1)]) hx hb d_Plan_missing_42 hl (k := 1) rfl rfl (by decide) rfl (fun ls hl => ?_)
                refine lv_iinc (v := i + 1) (lv' := [(3, .int (i + 1)), (2, .int (lft + (-1))), (0, .ref (ad 0)), (1, .int a1)]) hx hb d_Plan_missing_45 hl (k := 1) rfl rfl (by decide) rfl (fun ls hl => ?_)
                refine lv_goto (tgt := 8) hx hb d_Plan_missing_48 (by decide) ?_
                exact ih (lft + (-1)) (i + 1) ls (lp_inc31 hi c_2) (by rw [hq, if_neg c_2, if_pos c_3, if_neg c_4, if_neg c_5]) (lv_sub hl [0, 1, 2, 3] rfl)
              · refine lv_iload_n hx hb d_Plan_missing_40 rfl (lv_at hl 0 rfl) ?_
                exact W.toX (W.iret (v := i) hx hb hr (fun t ht hW => ⟨by rw [show f_Plan_missing x a1 = i from by rw [hq, if_neg c_2, if_pos c_3, if_neg c_4, if_pos c_5]], ht⟩) (fun q hq => by cases hq) d_Plan_missing_41)
    exact loop 32 a1 1 ls (by decide) (by unfold f_Plan_missing; rw [if_pos c_1]) (lv_sub hl [0, 1, 2, 3] rfl)
  · exact absurd (show k_Plan_missing x a1 = 2 from by unfold k_Plan_missing; rw [if_neg c_1]) (by rw [hk]; decide)
def k_Plan_way (x : ST) (a1 a2 a3 : Int32) : Nat := if k_Plan_wantRoom x a1 = 0 then (if k_Plan_wantKind a2 = 0 then (if k_Plan_wantWithin a3 0 255 = 0 then 0 else 2) else 1) else 1
set_option maxHeartbeats 400000 in
set_option maxRecDepth 100000 in
theorem t_Plan_way (l : Launch) (htr : l.stackTraces = false) (dC : Nat → ClassId) (dI : Nat → Nat → Nat) (cI cZ : ClassId) (ad : Nat → Nat) (x : ST) (hI : CIn x) (a1 a2 a3 : Int32) (hk : ¬ k_Plan_way x a1 a2 a3 = 0) : MX l y_Plan_way (Cond.code y_Plan_way b_Plan_way 5 (some .int) :: BW) { frames := 7, cells := 1, slots := 6, locals := 104 } (PX (dC, dI) [(cI, .int), (cZ, .boolean)] (wC cI cZ ad x) [.ref (ad 0), .int a1, .int a2, .int a3]) (TQ (xnm (k_Plan_way x a1 a2 a3))) 1 6 (fun _ => False) := by
  refine MX.ofW (cc := b_Plan_way) (maxL := 5) (ret := (some .int)) (by decide) rfl ?_
  intro p e s m args below meth c s₁ B hml hex hv
  obtain ⟨hE, rfl, hP, hK, hN⟩ := hv
  have hx := B.exec
  have hb := B.bytes
  have hr := B.returns
  have hts := atoms_spec (ws := Cond.code y_Plan_way b_Plan_way 5 (some .int) :: BW) B.pre
  have hbw : ∀ w ∈ BW, w.before ([.ref (ad 0), .int a1, .int a2, .int a3]).toArray s = true := fun w h => hts w (List.mem_cons_of_mem _ h)
  have hown : s.vm.findClass "PlanRows" = some m.cls := findClass_of_methodNamed B.named
  have hlocks := B.notSynchronized
  have hl := lv_entry ([.ref (ad 0), .int a1, .int a2, .int a3]) (n := 5) (Nat.le_of_ble_eq_true rfl)
  rw [lg_entry_eq]
  generalize (lg_sl ([.ref (ad 0), .int a1, .int a2, .int a3]) ++ List.replicate (5 - (lg_sl ([.ref (ad 0), .int a1, .int a2, .int a3])).length) Slot.unset).toArray = ls at hl ⊢
  have hl : lv_has ls 5 [(0, .ref (ad 0)), (1, .int a1), (2, .int a2), (3, .int a3)] := hl
  refine lv_aload_n hx hb d_Plan_way_0 rfl (lv_at hl 0 rfl) ?_
  refine lv_iload_n hx hb d_Plan_way_1 rfl (lv_at hl 1 rfl) ?_
  by_cases c_1 : k_Plan_wantRoom x a1 = 0
  · refine xv (As := [.int a1]) (rest := []) (C := "PlanRows") ⟨hx, hb, hml, hown, hts⟩ (c_Plan_wantRoom l dC dI cI cZ ad x hI a1 c_1) (cw_Plan_90 hts rfl rfl ⟨Nat.le_of_ble_eq_true rfl, Nat.le_of_ble_eq_true rfl⟩) hK hN hP 0 rfl rfl rfl rfl hl.1 rfl (Nat.le_of_ble_eq_true rfl) d_Plan_way_2 ⟨Nat.zero_le _, Nat.zero_le _⟩ ?_
    refine lv_iload_n hx hb d_Plan_way_5 rfl (lv_at hl 2 rfl) ?_
    by_cases c_2 : k_Plan_wantKind a2 = 0
    · refine xs (As := [.int a2]) (rest := []) ⟨hx, hb, hml, hown, hts⟩ (c_Plan_wantKind l dC dI _ _ a2 c_2) (cw_Plan_74 hts rfl rfl ⟨Nat.le_of_ble_eq_true rfl, Nat.le_of_ble_eq_true rfl⟩) hK hN hP rfl hl.1 rfl (Nat.le_of_ble_eq_true rfl) d_Plan_way_6 ⟨Nat.zero_le _, Nat.zero_le _⟩ ?_
      refine lv_iload_n hx hb d_Plan_way_9 rfl (lv_at hl 3 rfl) ?_
      refine lv_iconst (v := 0) hx hb d_Plan_way_10 (by decide) ?_
      refine lv_sipush (v := 255) hx hb d_Plan_way_11 (by decide) ?_
      by_cases c_3 : k_Plan_wantWithin a3 0 255 = 0
      · refine xs (As := [.int a3, .int 0, .int 255]) (rest := []) ⟨hx, hb, hml, hown, hts⟩ (c_Plan_wantWithin l dC dI _ _ a3 0 255 c_3) (cw_Plan_78 hts rfl rfl ⟨Nat.le_of_ble_eq_true rfl, Nat.le_of_ble_eq_true rfl⟩) hK hN hP rfl hl.1 rfl (Nat.le_of_ble_eq_true rfl) d_Plan_way_14 ⟨Nat.zero_le _, Nat.zero_le _⟩ ?_
        refine lv_aload_n hx hb d_Plan_way_17 rfl (lv_at hl 0 rfl) ?_
        refine va_get (D := (dC, dI)) (ci := 8) (v := .ref (ad 4)) (C := R_Plan) (T := F_Plan) (N := 10) hx hb hbw in_Plan hown hK hP 0 rfl rfl 3 (by decide) (hbw _ w_195) (fun _ h9 => h9) rfl d_Plan_way_18 ?_
        refine lv_iload_n hx hb d_Plan_way_21 rfl (lv_at hl 1 rfl) ?_
        refine lv_iload_n hx hb d_Plan_way_22 rfl (lv_at hl 3 rfl) ?_
        exact absurd (show k_Plan_way x a1 a2 a3 = 0 from by unfold k_Plan_way; rw [if_pos c_1, if_pos c_2, if_pos c_3]) hk
      · rw [show k_Plan_way x a1 a2 a3 = 2 from by unfold k_Plan_way; rw [if_pos c_1, if_pos c_2, if_neg c_3]]
        exact x_thrown (x_runS (As := [.int a3, .int 0, .int 255]) (rest := []) ⟨hx, hb, hml, hown, hts⟩ (t_Plan_wantWithin l htr dC dI _ _ a3 0 255 c_3) (cw_Plan_78 hts rfl rfl ⟨Nat.le_of_ble_eq_true rfl, Nat.le_of_ble_eq_true rfl⟩) ⟨PX.blind, PX.at hE hK hN hP⟩ rfl rfl hl.1 rfl (lv_room (Nat.le_of_ble_eq_true rfl)) d_Plan_way_14 ⟨Nat.le_of_ble_eq_true rfl, Nat.le_of_ble_eq_true rfl⟩) hex hlocks
    · rw [show k_Plan_way x a1 a2 a3 = 1 from by unfold k_Plan_way; rw [if_pos c_1, if_neg c_2]]
      exact x_thrown (x_runS (As := [.int a2]) (rest := []) ⟨hx, hb, hml, hown, hts⟩ (t_Plan_wantKind l htr dC dI _ _ a2 c_2) (cw_Plan_74 hts rfl rfl ⟨Nat.le_of_ble_eq_true rfl, Nat.le_of_ble_eq_true rfl⟩) ⟨PX.blind, PX.at hE hK hN hP⟩ rfl rfl hl.1 rfl (lv_room (Nat.le_of_ble_eq_true rfl)) d_Plan_way_6 ⟨Nat.le_of_ble_eq_true rfl, Nat.le_of_ble_eq_true rfl⟩) hex hlocks
  · rw [show k_Plan_way x a1 a2 a3 = 1 from by unfold k_Plan_way; rw [if_neg c_1]]
    exact x_thrown (x_runV (C := "PlanRows") (b := (ad 0)) (As := [.int a1]) (rest := []) ⟨hx, hb, hml, hown, hts⟩ (t_Plan_wantRoom l htr dC dI cI cZ ad x hI a1 c_1) (cw_Plan_90 hts rfl rfl ⟨Nat.le_of_ble_eq_true rfl, Nat.le_of_ble_eq_true rfl⟩) ⟨PX.blind, va_recv hK hP (ci := 8) (q0 := 0) rfl rfl, PX.at hE hK hN hP⟩ rfl rfl hl.1 rfl (lv_room (Nat.le_of_ble_eq_true rfl)) d_Plan_way_2 ⟨Nat.le_of_ble_eq_true rfl, Nat.le_of_ble_eq_true rfl⟩) hex hlocks
def g_Plan_way (x : ST) (a1 a2 a3 : Int32) : Int32 × ST := if k_Plan_wantRoom x a1 = 0 then (if k_Plan_wantKind a2 = 0 then (if k_Plan_wantWithin a3 0 255 = 0 then (f_Search_metresTo ((g_Search_tellWayTo ((g_Search_spreadFromRoom x a1 a3).2) (f_Search_nearestOf ((g_Search_spreadFromRoom x a1 a3).2) a2)).2) (f_Search_nearestOf ((g_Search_spreadFromRoom x a1 a3).2) a2), (g_Search_tellWayTo ((g_Search_spreadFromRoom x a1 a3).2) (f_Search_nearestOf ((g_Search_spreadFromRoom x a1 a3).2) a2)).2) else (0, x)) else (0, x)) else (0, x)
set_option maxHeartbeats 400000 in
set_option maxRecDepth 100000 in
theorem u_Plan_way (l : Launch) (dC : Nat → ClassId) (dI : Nat → Nat → Nat) (cI cZ : ClassId) (ad : Nat → Nat) (hj : aInj 29 ad) (x : ST) (hI : CIn x) (sz : Nat) (a1 a2 a3 : Int32) (hk : k_Plan_way x a1 a2 a3 = 0) : MX l y_Plan_way (Cond.code y_Plan_way b_Plan_way 5 (some .int) :: BW) { frames := 6, cells := 0, slots := 0, locals := 141 } (PCZ sz (dC, dI) [(cI, .int), (cZ, .boolean)] (wC cI cZ ad x) [.ref (ad 0), .int a1, .int a2, .int a3]) (UQ (some (.int (g_Plan_way x a1 a2 a3).1)) (WB (dC, dI) [(cI, .int), (cZ, .boolean)] (wC cI cZ ad (g_Plan_way x a1 a2 a3).2)) (aC 29 ad sz)) 0 0 (aC 29 ad sz) := by
  refine MX.ofW (cc := b_Plan_way) (maxL := 5) (ret := (some .int)) (by decide) rfl ?_
  intro p e s m args below meth c s₁ B hml hex hv
  obtain ⟨hsz, rfl, hP, hK, hN⟩ := hv
  subst hsz
  have hx := B.exec
  have hb := B.bytes
  have hr := B.returns
  have hts := atoms_spec (ws := Cond.code y_Plan_way b_Plan_way 5 (some .int) :: BW) B.pre
  have hbw : ∀ w ∈ BW, w.before ([.ref (ad 0), .int a1, .int a2, .int a3]).toArray s = true := fun w h => hts w (List.mem_cons_of_mem _ h)
  have hown : s.vm.findClass "PlanRows" = some m.cls := findClass_of_methodNamed B.named
  have hlocks := B.notSynchronized
  have hDx : ∀ z, va_D (aC 29 ad s.heap.size) (wC cI cZ ad z) := fun z => w_D hj (wC_ad cI cZ ad z) _
  have hA : ∀ H : Heap, s.heap.size ≤ H.size → ∀ q, aC 29 ad H.size q → aC 29 ad s.heap.size q := fun H h => aC_le h
  generalize aC 29 ad s.heap.size = A at hDx hA ⊢
  have hD := hDx x
  have hS : va_S A s.heap s.heap [] := va_S.rf
  have hI0 := hI
  have hl := lv_entry ([.ref (ad 0), .int a1, .int a2, .int a3]) (n := 5) (Nat.le_of_ble_eq_true rfl)
  rw [lg_entry_eq]
  generalize (lg_sl ([.ref (ad 0), .int a1, .int a2, .int a3]) ++ List.replicate (5 - (lg_sl ([.ref (ad 0), .int a1, .int a2, .int a3])).length) Slot.unset).toArray = ls at hl ⊢
  obtain ⟨H, hH⟩ : ∃ H, H = s.heap := ⟨_, rfl⟩
  obtain ⟨locs, hlocs⟩ : ∃ locs : List Loc, locs = [] := ⟨_, rfl⟩
  have hP : va_P (dC, dI) clsA (wC cI cZ ad x) H := by rw [hH]; exact hP
  have hS : va_S A s.heap H locs := by rw [hH, hlocs]; exact hS
  rw [← hlocs]
  have hW0 : ∀ (R : Room) (Q : State → Prop) (g : JFrame), W p l e R s m ([.ref (ad 0), .int a1, .int a2, .int a3]).toArray below meth c H locs 0 0 Q g → W p l e R s m ([.ref (ad 0), .int a1, .int a2, .int a3]).toArray below meth c s.heap locs 0 0 Q g := fun R Q g h => by rw [← hH]; exact h
  refine hW0 _ _ _ ?_
  have hl : lv_has ls 5 [(0, .ref (ad 0)), (1, .int a1), (2, .int a2), (3, .int a3)] := hl
  refine lv_aload_n hx hb d_Plan_way_0 rfl (lv_at hl 0 rfl) ?_
  refine lv_iload_n hx hb d_Plan_way_1 rfl (lv_at hl 1 rfl) ?_
  by_cases c_1 : k_Plan_wantRoom x a1 = 0
  · refine xv (As := [.int a1]) (rest := []) (C := "PlanRows") ⟨hx, hb, hml, hown, hts⟩ (c_Plan_wantRoom l dC dI cI cZ ad x hI a1 c_1) (cw_Plan_90 hts rfl rfl ⟨Nat.le_of_ble_eq_true rfl, Nat.le_of_ble_eq_true rfl⟩) hK hN hP 0 rfl rfl rfl rfl hl.1 rfl (Nat.le_of_ble_eq_true rfl) d_Plan_way_2 ⟨Nat.zero_le _, Nat.zero_le _⟩ ?_
    refine lv_iload_n hx hb d_Plan_way_5 rfl (lv_at hl 2 rfl) ?_
    by_cases c_2 : k_Plan_wantKind a2 = 0
    · refine xs (As := [.int a2]) (rest := []) ⟨hx, hb, hml, hown, hts⟩ (c_Plan_wantKind l dC dI _ _ a2 c_2) (cw_Plan_74 hts rfl rfl ⟨Nat.le_of_ble_eq_true rfl, Nat.le_of_ble_eq_true rfl⟩) hK hN hP rfl hl.1 rfl (Nat.le_of_ble_eq_true rfl) d_Plan_way_6 ⟨Nat.zero_le _, Nat.zero_le _⟩ ?_
      refine lv_iload_n hx hb d_Plan_way_9 rfl (lv_at hl 3 rfl) ?_
      refine lv_iconst (v := 0) hx hb d_Plan_way_10 (by decide) ?_
      refine lv_sipush (v := 255) hx hb d_Plan_way_11 (by decide) ?_
      by_cases c_3 : k_Plan_wantWithin a3 0 255 = 0
      · refine xs (As := [.int a3, .int 0, .int 255]) (rest := []) ⟨hx, hb, hml, hown, hts⟩ (c_Plan_wantWithin l dC dI _ _ a3 0 255 c_3) (cw_Plan_78 hts rfl rfl ⟨Nat.le_of_ble_eq_true rfl, Nat.le_of_ble_eq_true rfl⟩) hK hN hP rfl hl.1 rfl (Nat.le_of_ble_eq_true rfl) d_Plan_way_14 ⟨Nat.zero_le _, Nat.zero_le _⟩ ?_
        refine lv_aload_n hx hb d_Plan_way_17 rfl (lv_at hl 0 rfl) ?_
        refine va_get (D := (dC, dI)) (ci := 8) (v := .ref (ad 4)) (C := R_Plan) (T := F_Plan) (N := 10) hx hb hbw in_Plan hown hK hP 0 rfl rfl 3 (by decide) (hbw _ w_195) (fun _ h9 => h9) rfl d_Plan_way_18 ?_
        refine lv_iload_n hx hb d_Plan_way_21 rfl (lv_at hl 1 rfl) ?_
        refine lv_iload_n hx hb d_Plan_way_22 rfl (lv_at hl 3 rfl) ?_
        refine x_upd (x_runV (C := "PlanRows$Search") (b := (ad 4)) (As := [.int a1, .int a3]) (rest := []) ⟨hx, hb, hml, hown, hts⟩ (u_Search_spreadFromRoom l dC dI cI cZ ad hj x hI H.size a1 a3) (cw_Plan_133 hts rfl rfl ⟨Nat.le_of_ble_eq_true rfl, Nat.le_of_ble_eq_true rfl⟩) ⟨PCZ.blind, va_recv hK hP (ci := 6) (q0 := 4) rfl rfl, PCZ.at hK hN hP⟩ rfl rfl hl.1 rfl (lv_room (Nat.le_of_ble_eq_true rfl)) d_Plan_way_23 ⟨Nat.zero_le _, Nat.zero_le _⟩) hS (fun q _ h => hA H hS.1 q h) (fun q h => hA H hS.1 q h) (fun t H1 locs ht hW hB hz1 hk1 hS => ?_)
        obtain ⟨hP, -, -⟩ := hB
        rw [ht] at hP
        generalize H1 = H at hP hS ⊢
        have hD : va_D A (wC cI cZ ad ((g_Search_spreadFromRoom x a1 a3).2)) := hDx _
        have hI : CIn ((g_Search_spreadFromRoom x a1 a3).2) := ci_sfr hI0 _ _
        refine lv_aload_n hx hb d_Plan_way_26 rfl (lv_at hl 0 rfl) ?_
        refine va_get (D := (dC, dI)) (ci := 8) (v := .ref (ad 4)) (C := R_Plan) (T := F_Plan) (N := 10) hx hb hbw in_Plan hown hK hP 0 rfl rfl 3 (by decide) (hbw _ w_195) (fun _ h9 => h9) rfl d_Plan_way_27 ?_
        refine lv_iload_n hx hb d_Plan_way_30 rfl (lv_at hl 2 rfl) ?_
        refine xv (As := [.int a2]) (rest := []) (C := "PlanRows$Search") ⟨hx, hb, hml, hown, hts⟩ (c_Search_nearestOf l dC dI cI cZ ad ((g_Search_spreadFromRoom x a1 a3).2) hI a2) (cw_Plan_136 hts rfl rfl ⟨Nat.le_of_ble_eq_true rfl, Nat.le_of_ble_eq_true rfl⟩) hK hN hP 4 rfl rfl rfl rfl hl.1 rfl (Nat.le_of_ble_eq_true rfl) d_Plan_way_31 ⟨Nat.zero_le _, Nat.zero_le _⟩ ?_
        refine lv_istore (lv' := [(4, .int (f_Search_nearestOf ((g_Search_spreadFromRoom x a1 a3).2) a2)), (0, .ref (ad 0)), (1, .int a1), (2, .int a2), (3, .int a3)]) hx hb d_Plan_way_34 hl (by decide) rfl (fun ls hl => ?_)
        refine lv_aload_n hx hb d_Plan_way_36 rfl (lv_at hl 1 rfl) ?_
        refine va_get (D := (dC, dI)) (ci := 8) (v := .ref (ad 4)) (C := R_Plan) (T := F_Plan) (N := 10) hx hb hbw in_Plan hown hK hP 0 rfl rfl 3 (by decide) (hbw _ w_195) (fun _ h9 => h9) rfl d_Plan_way_37 ?_
        refine lv_iload hx hb d_Plan_way_40 (lv_at hl 0 rfl) ?_
        refine lv_aload_n hx hb d_Plan_way_42 rfl (lv_at hl 1 rfl) ?_
        refine va_get (D := (dC, dI)) (ci := 8) (v := .ref (ad 5)) (C := R_Plan) (T := F_Plan) (N := 10) hx hb hbw in_Plan hown hK hP 0 rfl rfl 4 (by decide) (hbw _ w_196) (fun _ h9 => h9) rfl d_Plan_way_43 ?_
        refine x_upd (x_runV (C := "PlanRows$Search") (b := (ad 4)) (As := [.int (f_Search_nearestOf ((g_Search_spreadFromRoom x a1 a3).2) a2), .ref (ad 5)]) (rest := []) ⟨hx, hb, hml, hown, hts⟩ (u_Search_tellWayTo l dC dI cI cZ ad hj ((g_Search_spreadFromRoom x a1 a3).2) hI H.size (f_Search_nearestOf ((g_Search_spreadFromRoom x a1 a3).2) a2)) (cw_Plan_139 hts rfl rfl ⟨Nat.le_of_ble_eq_true rfl, Nat.le_of_ble_eq_true rfl⟩) ⟨PCZ.blind, va_recv hK hP (ci := 6) (q0 := 4) rfl rfl, PCZ.at hK hN hP⟩ rfl rfl hl.1 rfl (lv_room (Nat.le_of_ble_eq_true rfl)) d_Plan_way_46 ⟨Nat.zero_le _, Nat.zero_le _⟩) hS (fun q _ h => hA H hS.1 q h) (fun q h => hA H hS.1 q h) (fun t H1 locs ht hW hB hz1 hk1 hS => ?_)
        obtain ⟨hP, -, -⟩ := hB
        rw [ht] at hP
        generalize H1 = H at hP hS ⊢
        have hD : va_D A (wC cI cZ ad ((g_Search_tellWayTo ((g_Search_spreadFromRoom x a1 a3).2) (f_Search_nearestOf ((g_Search_spreadFromRoom x a1 a3).2) a2)).2)) := hDx _
        have hI : CIn ((g_Search_tellWayTo ((g_Search_spreadFromRoom x a1 a3).2) (f_Search_nearestOf ((g_Search_spreadFromRoom x a1 a3).2) a2)).2) := ci_tell (ci_sfr hI0 _ _) _
        refine lv_aload_n hx hb d_Plan_way_49 rfl (lv_at hl 1 rfl) ?_
        refine va_get (D := (dC, dI)) (ci := 8) (v := .ref (ad 4)) (C := R_Plan) (T := F_Plan) (N := 10) hx hb hbw in_Plan hown hK hP 0 rfl rfl 3 (by decide) (hbw _ w_195) (fun _ h9 => h9) rfl d_Plan_way_50 ?_
        refine lv_iload hx hb d_Plan_way_53 (lv_at hl 0 rfl) ?_
        refine xv (As := [.int (f_Search_nearestOf ((g_Search_spreadFromRoom x a1 a3).2) a2)]) (rest := []) (C := "PlanRows$Search") ⟨hx, hb, hml, hown, hts⟩ (c_Search_metresTo l dC dI cI cZ ad ((g_Search_tellWayTo ((g_Search_spreadFromRoom x a1 a3).2) (f_Search_nearestOf ((g_Search_spreadFromRoom x a1 a3).2) a2)).2) hI (f_Search_nearestOf ((g_Search_spreadFromRoom x a1 a3).2) a2)) (cw_Plan_143 hts rfl rfl ⟨Nat.le_of_ble_eq_true rfl, Nat.le_of_ble_eq_true rfl⟩) hK hN hP 4 rfl rfl rfl rfl hl.1 rfl (Nat.le_of_ble_eq_true rfl) d_Plan_way_55 ⟨Nat.zero_le _, Nat.zero_le _⟩ ?_
        have hg : g_Plan_way x a1 a2 a3 = (f_Search_metresTo ((g_Search_tellWayTo ((g_Search_spreadFromRoom x a1 a3).2) (f_Search_nearestOf ((g_Search_spreadFromRoom x a1 a3).2) a2)).2) (f_Search_nearestOf ((g_Search_spreadFromRoom x a1 a3).2) a2), (g_Search_tellWayTo ((g_Search_spreadFromRoom x a1 a3).2) (f_Search_nearestOf ((g_Search_spreadFromRoom x a1 a3).2) a2)).2) := by unfold g_Plan_way; rw [if_pos c_1, if_pos c_2, if_pos c_3]
        exact W.toX (W.iret (v := f_Search_metresTo ((g_Search_tellWayTo ((g_Search_spreadFromRoom x a1 a3).2) (f_Search_nearestOf ((g_Search_spreadFromRoom x a1 a3).2) a2)).2) (f_Search_nearestOf ((g_Search_spreadFromRoom x a1 a3).2) a2)) hx hb hr (fun t ht hW => ⟨by rw [hg, pr_fst], ⟨by rw [ht, hg, pr_snd]; exact hP, va_K.moved hW.alike hK, hN.warm hW⟩, hS.F ht⟩) hS.2.2 d_Plan_way_58)
      · exact absurd (show k_Plan_way x a1 a2 a3 = 2 from by unfold k_Plan_way; rw [if_pos c_1, if_pos c_2, if_neg c_3]) (by rw [hk]; decide)
    · exact absurd (show k_Plan_way x a1 a2 a3 = 1 from by unfold k_Plan_way; rw [if_pos c_1, if_neg c_2]) (by rw [hk]; decide)
  · exact absurd (show k_Plan_way x a1 a2 a3 = 1 from by unfold k_Plan_way; rw [if_neg c_1]) (by rw [hk]; decide)
def k_Plan_hoses (x : ST) (a1 a2 : Int32) : Nat := if k_Plan_wantRoom x a1 = 0 then (if k_Plan_wantWithin a2 1 100 = 0 then 0 else 2) else 1
set_option maxHeartbeats 400000 in
set_option maxRecDepth 100000 in
theorem t_Plan_hoses (l : Launch) (htr : l.stackTraces = false) (dC : Nat → ClassId) (dI : Nat → Nat → Nat) (cI cZ : ClassId) (ad : Nat → Nat) (x : ST) (hI : CIn x) (a1 a2 : Int32) (hk : ¬ k_Plan_hoses x a1 a2 = 0) : MX l y_Plan_hoses (Cond.code y_Plan_hoses b_Plan_hoses 4 (some .int) :: BW) { frames := 7, cells := 1, slots := 6, locals := 104 } (PX (dC, dI) [(cI, .int), (cZ, .boolean)] (wC cI cZ ad x) [.ref (ad 0), .int a1, .int a2]) (TQ (xnm (k_Plan_hoses x a1 a2))) 1 6 (fun _ => False) := by
  refine MX.ofW (cc := b_Plan_hoses) (maxL := 4) (ret := (some .int)) (by decide) rfl ?_
  intro p e s m args below meth c s₁ B hml hex hv
  obtain ⟨hE, rfl, hP, hK, hN⟩ := hv
  have hx := B.exec
  have hb := B.bytes
  have hr := B.returns
  have hts := atoms_spec (ws := Cond.code y_Plan_hoses b_Plan_hoses 4 (some .int) :: BW) B.pre
  have hbw : ∀ w ∈ BW, w.before ([.ref (ad 0), .int a1, .int a2]).toArray s = true := fun w h => hts w (List.mem_cons_of_mem _ h)
  have hown : s.vm.findClass "PlanRows" = some m.cls := findClass_of_methodNamed B.named
  have hlocks := B.notSynchronized
  have hl := lv_entry ([.ref (ad 0), .int a1, .int a2]) (n := 4) (Nat.le_of_ble_eq_true rfl)
  rw [lg_entry_eq]
  generalize (lg_sl ([.ref (ad 0), .int a1, .int a2]) ++ List.replicate (4 - (lg_sl ([.ref (ad 0), .int a1, .int a2])).length) Slot.unset).toArray = ls at hl ⊢
  have hl : lv_has ls 4 [(0, .ref (ad 0)), (1, .int a1), (2, .int a2)] := hl
  refine lv_aload_n hx hb d_Plan_hoses_0 rfl (lv_at hl 0 rfl) ?_
  refine lv_iload_n hx hb d_Plan_hoses_1 rfl (lv_at hl 1 rfl) ?_
  by_cases c_1 : k_Plan_wantRoom x a1 = 0
  · refine xv (As := [.int a1]) (rest := []) (C := "PlanRows") ⟨hx, hb, hml, hown, hts⟩ (c_Plan_wantRoom l dC dI cI cZ ad x hI a1 c_1) (cw_Plan_90 hts rfl rfl ⟨Nat.le_of_ble_eq_true rfl, Nat.le_of_ble_eq_true rfl⟩) hK hN hP 0 rfl rfl rfl rfl hl.1 rfl (Nat.le_of_ble_eq_true rfl) d_Plan_hoses_2 ⟨Nat.zero_le _, Nat.zero_le _⟩ ?_
    refine lv_iload_n hx hb d_Plan_hoses_5 rfl (lv_at hl 2 rfl) ?_
    refine lv_iconst (v := 1) hx hb d_Plan_hoses_6 (by decide) ?_
    refine lv_bipush (v := 100) hx hb d_Plan_hoses_7 (by decide) ?_
    by_cases c_2 : k_Plan_wantWithin a2 1 100 = 0
    · refine xs (As := [.int a2, .int 1, .int 100]) (rest := []) ⟨hx, hb, hml, hown, hts⟩ (c_Plan_wantWithin l dC dI _ _ a2 1 100 c_2) (cw_Plan_78 hts rfl rfl ⟨Nat.le_of_ble_eq_true rfl, Nat.le_of_ble_eq_true rfl⟩) hK hN hP rfl hl.1 rfl (Nat.le_of_ble_eq_true rfl) d_Plan_hoses_9 ⟨Nat.zero_le _, Nat.zero_le _⟩ ?_
      refine lv_aload_n hx hb d_Plan_hoses_12 rfl (lv_at hl 0 rfl) ?_
      refine va_get (D := (dC, dI)) (ci := 8) (v := .ref (ad 4)) (C := R_Plan) (T := F_Plan) (N := 10) hx hb hbw in_Plan hown hK hP 0 rfl rfl 3 (by decide) (hbw _ w_195) (fun _ h9 => h9) rfl d_Plan_hoses_13 ?_
      refine lv_iload_n hx hb d_Plan_hoses_16 rfl (lv_at hl 1 rfl) ?_
      refine lv_iconst (v := 0) hx hb d_Plan_hoses_17 (by decide) ?_
      exact absurd (show k_Plan_hoses x a1 a2 = 0 from by unfold k_Plan_hoses; rw [if_pos c_1, if_pos c_2]) hk
    · rw [show k_Plan_hoses x a1 a2 = 2 from by unfold k_Plan_hoses; rw [if_pos c_1, if_neg c_2]]
      exact x_thrown (x_runS (As := [.int a2, .int 1, .int 100]) (rest := []) ⟨hx, hb, hml, hown, hts⟩ (t_Plan_wantWithin l htr dC dI _ _ a2 1 100 c_2) (cw_Plan_78 hts rfl rfl ⟨Nat.le_of_ble_eq_true rfl, Nat.le_of_ble_eq_true rfl⟩) ⟨PX.blind, PX.at hE hK hN hP⟩ rfl rfl hl.1 rfl (lv_room (Nat.le_of_ble_eq_true rfl)) d_Plan_hoses_9 ⟨Nat.le_of_ble_eq_true rfl, Nat.le_of_ble_eq_true rfl⟩) hex hlocks
  · rw [show k_Plan_hoses x a1 a2 = 1 from by unfold k_Plan_hoses; rw [if_neg c_1]]
    exact x_thrown (x_runV (C := "PlanRows") (b := (ad 0)) (As := [.int a1]) (rest := []) ⟨hx, hb, hml, hown, hts⟩ (t_Plan_wantRoom l htr dC dI cI cZ ad x hI a1 c_1) (cw_Plan_90 hts rfl rfl ⟨Nat.le_of_ble_eq_true rfl, Nat.le_of_ble_eq_true rfl⟩) ⟨PX.blind, va_recv hK hP (ci := 8) (q0 := 0) rfl rfl, PX.at hE hK hN hP⟩ rfl rfl hl.1 rfl (lv_room (Nat.le_of_ble_eq_true rfl)) d_Plan_hoses_2 ⟨Nat.le_of_ble_eq_true rfl, Nat.le_of_ble_eq_true rfl⟩) hex hlocks
def g_Plan_hoses (x : ST) (a1 a2 : Int32) : Int32 × ST := if k_Plan_wantRoom x a1 = 0 then (if k_Plan_wantWithin a2 1 100 = 0 then (if 0 ≤ (f_Search_metresTo ((g_Search_spreadFromRoom x a1 0).2) (f_Search_nearestOf ((g_Search_spreadFromRoom x a1 0).2) 1)) then ((((f_Search_metresTo ((g_Search_spreadFromRoom x a1 0).2) (f_Search_nearestOf ((g_Search_spreadFromRoom x a1 0).2) 1)) + a2) - 1) / a2, (g_Search_spreadFromRoom x a1 0).2) else ((-1), (g_Search_spreadFromRoom x a1 0).2)) else (0, x)) else (0, x)
set_option maxHeartbeats 400000 in
set_option maxRecDepth 100000 in
theorem u_Plan_hoses (l : Launch) (dC : Nat → ClassId) (dI : Nat → Nat → Nat) (cI cZ : ClassId) (ad : Nat → Nat) (hj : aInj 29 ad) (x : ST) (hI : CIn x) (sz : Nat) (a1 a2 : Int32) (hk : k_Plan_hoses x a1 a2 = 0) : MX l y_Plan_hoses (Cond.code y_Plan_hoses b_Plan_hoses 4 (some .int) :: BW) { frames := 6, cells := 0, slots := 0, locals := 141 } (PCZ sz (dC, dI) [(cI, .int), (cZ, .boolean)] (wC cI cZ ad x) [.ref (ad 0), .int a1, .int a2]) (UQ (some (.int (g_Plan_hoses x a1 a2).1)) (WB (dC, dI) [(cI, .int), (cZ, .boolean)] (wC cI cZ ad (g_Plan_hoses x a1 a2).2)) (aC 29 ad sz)) 0 0 (aC 29 ad sz) := by
  refine MX.ofW (cc := b_Plan_hoses) (maxL := 4) (ret := (some .int)) (by decide) rfl ?_
  intro p e s m args below meth c s₁ B hml hex hv
  obtain ⟨hsz, rfl, hP, hK, hN⟩ := hv
  subst hsz
  have hx := B.exec
  have hb := B.bytes
  have hr := B.returns
  have hts := atoms_spec (ws := Cond.code y_Plan_hoses b_Plan_hoses 4 (some .int) :: BW) B.pre
  have hbw : ∀ w ∈ BW, w.before ([.ref (ad 0), .int a1, .int a2]).toArray s = true := fun w h => hts w (List.mem_cons_of_mem _ h)
  have hown : s.vm.findClass "PlanRows" = some m.cls := findClass_of_methodNamed B.named
  have hlocks := B.notSynchronized
  have hDx : ∀ z, va_D (aC 29 ad s.heap.size) (wC cI cZ ad z) := fun z => w_D hj (wC_ad cI cZ ad z) _
  have hA : ∀ H : Heap, s.heap.size ≤ H.size → ∀ q, aC 29 ad H.size q → aC 29 ad s.heap.size q := fun H h => aC_le h
  generalize aC 29 ad s.heap.size = A at hDx hA ⊢
  have hD := hDx x
  have hS : va_S A s.heap s.heap [] := va_S.rf
  have hI0 := hI
  have hl := lv_entry ([.ref (ad 0), .int a1, .int a2]) (n := 4) (Nat.le_of_ble_eq_true rfl)
  rw [lg_entry_eq]
  generalize (lg_sl ([.ref (ad 0), .int a1, .int a2]) ++ List.replicate (4 - (lg_sl ([.ref (ad 0), .int a1, .int a2])).length) Slot.unset).toArray = ls at hl ⊢
  obtain ⟨H, hH⟩ : ∃ H, H = s.heap := ⟨_, rfl⟩
  obtain ⟨locs, hlocs⟩ : ∃ locs : List Loc, locs = [] := ⟨_, rfl⟩
  have hP : va_P (dC, dI) clsA (wC cI cZ ad x) H := by rw [hH]; exact hP
  have hS : va_S A s.heap H locs := by rw [hH, hlocs]; exact hS
  rw [← hlocs]
  have hW0 : ∀ (R : Room) (Q : State → Prop) (g : JFrame), W p l e R s m ([.ref (ad 0), .int a1, .int a2]).toArray below meth c H locs 0 0 Q g → W p l e R s m ([.ref (ad 0), .int a1, .int a2]).toArray below meth c s.heap locs 0 0 Q g := fun R Q g h => by rw [← hH]; exact h
  refine hW0 _ _ _ ?_
  have hl : lv_has ls 4 [(0, .ref (ad 0)), (1, .int a1), (2, .int a2)] := hl
  refine lv_aload_n hx hb d_Plan_hoses_0 rfl (lv_at hl 0 rfl) ?_
  refine lv_iload_n hx hb d_Plan_hoses_1 rfl (lv_at hl 1 rfl) ?_
  by_cases c_1 : k_Plan_wantRoom x a1 = 0
  · refine xv (As := [.int a1]) (rest := []) (C := "PlanRows") ⟨hx, hb, hml, hown, hts⟩ (c_Plan_wantRoom l dC dI cI cZ ad x hI a1 c_1) (cw_Plan_90 hts rfl rfl ⟨Nat.le_of_ble_eq_true rfl, Nat.le_of_ble_eq_true rfl⟩) hK hN hP 0 rfl rfl rfl rfl hl.1 rfl (Nat.le_of_ble_eq_true rfl) d_Plan_hoses_2 ⟨Nat.zero_le _, Nat.zero_le _⟩ ?_
    refine lv_iload_n hx hb d_Plan_hoses_5 rfl (lv_at hl 2 rfl) ?_
    refine lv_iconst (v := 1) hx hb d_Plan_hoses_6 (by decide) ?_
    refine lv_bipush (v := 100) hx hb d_Plan_hoses_7 (by decide) ?_
    by_cases c_2 : k_Plan_wantWithin a2 1 100 = 0
    · refine xs (As := [.int a2, .int 1, .int 100]) (rest := []) ⟨hx, hb, hml, hown, hts⟩ (c_Plan_wantWithin l dC dI _ _ a2 1 100 c_2) (cw_Plan_78 hts rfl rfl ⟨Nat.le_of_ble_eq_true rfl, Nat.le_of_ble_eq_true rfl⟩) hK hN hP rfl hl.1 rfl (Nat.le_of_ble_eq_true rfl) d_Plan_hoses_9 ⟨Nat.zero_le _, Nat.zero_le _⟩ ?_
      refine lv_aload_n hx hb d_Plan_hoses_12 rfl (lv_at hl 0 rfl) ?_
      refine va_get (D := (dC, dI)) (ci := 8) (v := .ref (ad 4)) (C := R_Plan) (T := F_Plan) (N := 10) hx hb hbw in_Plan hown hK hP 0 rfl rfl 3 (by decide) (hbw _ w_195) (fun _ h9 => h9) rfl d_Plan_hoses_13 ?_
      refine lv_iload_n hx hb d_Plan_hoses_16 rfl (lv_at hl 1 rfl) ?_
      refine lv_iconst (v := 0) hx hb d_Plan_hoses_17 (by decide) ?_
      refine x_upd (x_runV (C := "PlanRows$Search") (b := (ad 4)) (As := [.int a1, .int 0]) (rest := []) ⟨hx, hb, hml, hown, hts⟩ (u_Search_spreadFromRoom l dC dI cI cZ ad hj x hI H.size a1 0) (cw_Plan_133 hts rfl rfl ⟨Nat.le_of_ble_eq_true rfl, Nat.le_of_ble_eq_true rfl⟩) ⟨PCZ.blind, va_recv hK hP (ci := 6) (q0 := 4) rfl rfl, PCZ.at hK hN hP⟩ rfl rfl hl.1 rfl (lv_room (Nat.le_of_ble_eq_true rfl)) d_Plan_hoses_18 ⟨Nat.zero_le _, Nat.zero_le _⟩) hS (fun q _ h => hA H hS.1 q h) (fun q h => hA H hS.1 q h) (fun t H1 locs ht hW hB hz1 hk1 hS => ?_)
      obtain ⟨hP, -, -⟩ := hB
      rw [ht] at hP
      generalize H1 = H at hP hS ⊢
      have hD : va_D A (wC cI cZ ad ((g_Search_spreadFromRoom x a1 0).2)) := hDx _
      have hI : CIn ((g_Search_spreadFromRoom x a1 0).2) := ci_sfr hI0 _ _
      refine lv_aload_n hx hb d_Plan_hoses_21 rfl (lv_at hl 0 rfl) ?_
      refine va_get (D := (dC, dI)) (ci := 8) (v := .ref (ad 4)) (C := R_Plan) (T := F_Plan) (N := 10) hx hb hbw in_Plan hown hK hP 0 rfl rfl 3 (by decide) (hbw _ w_195) (fun _ h9 => h9) rfl d_Plan_hoses_22 ?_
      refine lv_aload_n hx hb d_Plan_hoses_25 rfl (lv_at hl 0 rfl) ?_
      refine va_get (D := (dC, dI)) (ci := 8) (v := .ref (ad 4)) (C := R_Plan) (T := F_Plan) (N := 10) hx hb hbw in_Plan hown hK hP 0 rfl rfl 3 (by decide) (hbw _ w_195) (fun _ h9 => h9) rfl d_Plan_hoses_26 ?_
      refine lv_iconst (v := 1) hx hb d_Plan_hoses_29 (by decide) ?_
      refine xv (As := [.int 1]) (rest := [.ref (ad 4)]) (C := "PlanRows$Search") ⟨hx, hb, hml, hown, hts⟩ (c_Search_nearestOf l dC dI cI cZ ad ((g_Search_spreadFromRoom x a1 0).2) hI 1) (cw_Plan_136 hts rfl rfl ⟨Nat.le_of_ble_eq_true rfl, Nat.le_of_ble_eq_true rfl⟩) hK hN hP 4 rfl rfl rfl rfl hl.1 rfl (Nat.le_of_ble_eq_true rfl) d_Plan_hoses_30 ⟨Nat.zero_le _, Nat.zero_le _⟩ ?_
      refine xv (As := [.int (f_Search_nearestOf ((g_Search_spreadFromRoom x a1 0).2) 1)]) (rest := []) (C := "PlanRows$Search") ⟨hx, hb, hml, hown, hts⟩ (c_Search_metresTo l dC dI cI cZ ad ((g_Search_spreadFromRoom x a1 0).2) hI (f_Search_nearestOf ((g_Search_spreadFromRoom x a1 0).2) 1)) (cw_Plan_143 hts rfl rfl ⟨Nat.le_of_ble_eq_true rfl, Nat.le_of_ble_eq_true rfl⟩) hK hN hP 4 rfl rfl rfl rfl hl.1 rfl (Nat.le_of_ble_eq_true rfl) d_Plan_hoses_33 ⟨Nat.zero_le _, Nat.zero_le _⟩ ?_
      refine lv_istore_n (lv' := [(3, .int (f_Search_metresTo ((g_Search_spreadFromRoom x a1 0).2) (f_Search_nearestOf ((g_Search_spreadFromRoom x a1 0).2) 1))), (0, .ref (ad 0)), (1, .int a1), (2, .int a2)]) hx hb d_Plan_hoses_36 rfl hl (by decide) rfl (fun ls hl => ?_)
      refine lv_iload_n hx hb d_Plan_hoses_37 rfl (lv_at hl 0 rfl) ?_
      refine lv_if_ge (tgt := 45) hx hb d_Plan_hoses_38 (by decide) (fun c_3 => ?_) (fun c_3 => ?_)
      · refine lv_iload_n hx hb d_Plan_hoses_45 rfl (lv_at hl 0 rfl) ?_
        refine lv_iload_n hx hb d_Plan_hoses_46 rfl (lv_at hl 3 rfl) ?_
        refine lv_iadd hx hb d_Plan_hoses_47 ?_
        refine lv_iconst (v := 1) hx hb d_Plan_hoses_48 (by decide) ?_
        refine lv_isub hx hb d_Plan_hoses_49 ?_
        refine lv_iload_n hx hb d_Plan_hoses_50 rfl (lv_at hl 3 rfl) ?_
        refine lv_idiv hx hb d_Plan_hoses_51 (nz_len c_2) ?_
        have hg : g_Plan_hoses x a1 a2 = ((((f_Search_metresTo ((g_Search_spreadFromRoom x a1 0).2) (f_Search_nearestOf ((g_Search_spreadFromRoom x a1 0).2) 1)) + a2) - 1) / a2, (g_Search_spreadFromRoom x a1 0).2) := by unfold g_Plan_hoses; rw [if_pos c_1, if_pos c_2, if_pos c_3]
        exact W.toX (W.iret (v := (((f_Search_metresTo ((g_Search_spreadFromRoom x a1 0).2) (f_Search_nearestOf ((g_Search_spreadFromRoom x a1 0).2) 1)) + a2) - 1) / a2) hx hb hr (fun t ht hW => ⟨by rw [hg, pr_fst], ⟨by rw [ht, hg, pr_snd]; exact hP, va_K.moved hW.alike hK, hN.warm hW⟩, hS.F ht⟩) hS.2.2 d_Plan_hoses_52)
      · refine lv_iconst (v := (-1)) hx hb d_Plan_hoses_41 (by decide) ?_
        refine lv_goto (tgt := 52) hx hb d_Plan_hoses_42 (by decide) ?_
        have hg : g_Plan_hoses x a1 a2 = ((-1), (g_Search_spreadFromRoom x a1 0).2) := by unfold g_Plan_hoses; rw [if_pos c_1, if_pos c_2, if_neg c_3]
        exact W.toX (W.iret (v := (-1)) hx hb hr (fun t ht hW => ⟨by rw [hg, pr_fst], ⟨by rw [ht, hg, pr_snd]; exact hP, va_K.moved hW.alike hK, hN.warm hW⟩, hS.F ht⟩) hS.2.2 d_Plan_hoses_52)
    · exact absurd (show k_Plan_hoses x a1 a2 = 2 from by unfold k_Plan_hoses; rw [if_pos c_1, if_neg c_2]) (by rw [hk]; decide)
  · exact absurd (show k_Plan_hoses x a1 a2 = 1 from by unfold k_Plan_hoses; rw [if_neg c_1]) (by rw [hk]; decide)
def k_Plan_trapped (x : ST) (a1 : Int32) : Nat := if k_Plan_wantNotBelowZero a1 = 0 then 0 else 2
set_option maxHeartbeats 400000 in
set_option maxRecDepth 100000 in
theorem t_Plan_trapped (l : Launch) (htr : l.stackTraces = false) (dC : Nat → ClassId) (dI : Nat → Nat → Nat) (cI cZ : ClassId) (ad : Nat → Nat) (x : ST) (hI : CIn x) (a1 : Int32) (hk : ¬ k_Plan_trapped x a1 = 0) : MX l y_Plan_trapped (Cond.code y_Plan_trapped b_Plan_trapped 2 (some .int) :: BW) { frames := 7, cells := 1, slots := 6, locals := 102 } (PX (dC, dI) [(cI, .int), (cZ, .boolean)] (wC cI cZ ad x) [.ref (ad 0), .int a1]) (TQ (xnm (k_Plan_trapped x a1))) 1 6 (fun _ => False) := by
  refine MX.ofW (cc := b_Plan_trapped) (maxL := 2) (ret := (some .int)) (by decide) rfl ?_
  intro p e s m args below meth c s₁ B hml hex hv
  obtain ⟨hE, rfl, hP, hK, hN⟩ := hv
  have hx := B.exec
  have hb := B.bytes
  have hr := B.returns
  have hts := atoms_spec (ws := Cond.code y_Plan_trapped b_Plan_trapped 2 (some .int) :: BW) B.pre
  have hbw : ∀ w ∈ BW, w.before ([.ref (ad 0), .int a1]).toArray s = true := fun w h => hts w (List.mem_cons_of_mem _ h)
  have hown : s.vm.findClass "PlanRows" = some m.cls := findClass_of_methodNamed B.named
  have hlocks := B.notSynchronized
  have hl := lv_entry ([.ref (ad 0), .int a1]) (n := 2) (Nat.le_of_ble_eq_true rfl)
  rw [lg_entry_eq]
  generalize (lg_sl ([.ref (ad 0), .int a1]) ++ List.replicate (2 - (lg_sl ([.ref (ad 0), .int a1])).length) Slot.unset).toArray = ls at hl ⊢
  have hl : lv_has ls 2 [(0, .ref (ad 0)), (1, .int a1)] := hl
  refine lv_iload_n hx hb d_Plan_trapped_0 rfl (lv_at hl 1 rfl) ?_
  by_cases c_1 : k_Plan_wantNotBelowZero a1 = 0
  · refine xs (As := [.int a1]) (rest := []) ⟨hx, hb, hml, hown, hts⟩ (c_Plan_wantNotBelowZero l dC dI _ _ a1 c_1) (cw_Plan_146 hts rfl rfl ⟨Nat.le_of_ble_eq_true rfl, Nat.le_of_ble_eq_true rfl⟩) hK hN hP rfl hl.1 rfl (Nat.le_of_ble_eq_true rfl) d_Plan_trapped_1 ⟨Nat.zero_le _, Nat.zero_le _⟩ ?_
    refine lv_aload_n hx hb d_Plan_trapped_4 rfl (lv_at hl 0 rfl) ?_
    refine va_get (D := (dC, dI)) (ci := 8) (v := .ref (ad 4)) (C := R_Plan) (T := F_Plan) (N := 10) hx hb hbw in_Plan hown hK hP 0 rfl rfl 3 (by decide) (hbw _ w_195) (fun _ h9 => h9) rfl d_Plan_trapped_5 ?_
    refine lv_iconst (v := 2) hx hb d_Plan_trapped_8 (by decide) ?_
    exact absurd (show k_Plan_trapped x a1 = 0 from by unfold k_Plan_trapped; rw [if_pos c_1]) hk
  · rw [show k_Plan_trapped x a1 = 2 from by unfold k_Plan_trapped; rw [if_neg c_1]]
    exact x_thrown (x_runS (As := [.int a1]) (rest := []) ⟨hx, hb, hml, hown, hts⟩ (t_Plan_wantNotBelowZero l htr dC dI _ _ a1 c_1) (cw_Plan_146 hts rfl rfl ⟨Nat.le_of_ble_eq_true rfl, Nat.le_of_ble_eq_true rfl⟩) ⟨PX.blind, PX.at hE hK hN hP⟩ rfl rfl hl.1 rfl (lv_room (Nat.le_of_ble_eq_true rfl)) d_Plan_trapped_1 ⟨Nat.le_of_ble_eq_true rfl, Nat.le_of_ble_eq_true rfl⟩) hex hlocks
def g_Plan_trapped (x : ST) (a1 : Int32) : Int32 × ST := if k_Plan_wantNotBelowZero a1 = 0 then (f_Search_unreachedAt ((g_Search_spreadFromKind x 2).2) a1, (g_Search_spreadFromKind x 2).2) else (0, x)
set_option maxHeartbeats 400000 in
set_option maxRecDepth 100000 in
theorem u_Plan_trapped (l : Launch) (dC : Nat → ClassId) (dI : Nat → Nat → Nat) (cI cZ : ClassId) (ad : Nat → Nat) (hj : aInj 29 ad) (x : ST) (hI : CIn x) (sz : Nat) (a1 : Int32) (hk : k_Plan_trapped x a1 = 0) : MX l y_Plan_trapped (Cond.code y_Plan_trapped b_Plan_trapped 2 (some .int) :: BW) { frames := 6, cells := 0, slots := 0, locals := 141 } (PCZ sz (dC, dI) [(cI, .int), (cZ, .boolean)] (wC cI cZ ad x) [.ref (ad 0), .int a1]) (UQ (some (.int (g_Plan_trapped x a1).1)) (WB (dC, dI) [(cI, .int), (cZ, .boolean)] (wC cI cZ ad (g_Plan_trapped x a1).2)) (aC 29 ad sz)) 0 0 (aC 29 ad sz) := by
  refine MX.ofW (cc := b_Plan_trapped) (maxL := 2) (ret := (some .int)) (by decide) rfl ?_
  intro p e s m args below meth c s₁ B hml hex hv
  obtain ⟨hsz, rfl, hP, hK, hN⟩ := hv
  subst hsz
  have hx := B.exec
  have hb := B.bytes
  have hr := B.returns
  have hts := atoms_spec (ws := Cond.code y_Plan_trapped b_Plan_trapped 2 (some .int) :: BW) B.pre
  have hbw : ∀ w ∈ BW, w.before ([.ref (ad 0), .int a1]).toArray s = true := fun w h => hts w (List.mem_cons_of_mem _ h)
  have hown : s.vm.findClass "PlanRows" = some m.cls := findClass_of_methodNamed B.named
  have hlocks := B.notSynchronized
  have hDx : ∀ z, va_D (aC 29 ad s.heap.size) (wC cI cZ ad z) := fun z => w_D hj (wC_ad cI cZ ad z) _
  have hA : ∀ H : Heap, s.heap.size ≤ H.size → ∀ q, aC 29 ad H.size q → aC 29 ad s.heap.size q := fun H h => aC_le h
  generalize aC 29 ad s.heap.size = A at hDx hA ⊢
  have hD := hDx x
  have hS : va_S A s.heap s.heap [] := va_S.rf
  have hI0 := hI
  have hl := lv_entry ([.ref (ad 0), .int a1]) (n := 2) (Nat.le_of_ble_eq_true rfl)
  rw [lg_entry_eq]
  generalize (lg_sl ([.ref (ad 0), .int a1]) ++ List.replicate (2 - (lg_sl ([.ref (ad 0), .int a1])).length) Slot.unset).toArray = ls at hl ⊢
  obtain ⟨H, hH⟩ : ∃ H, H = s.heap := ⟨_, rfl⟩
  obtain ⟨locs, hlocs⟩ : ∃ locs : List Loc, locs = [] := ⟨_, rfl⟩
  have hP : va_P (dC, dI) clsA (wC cI cZ ad x) H := by rw [hH]; exact hP
  have hS : va_S A s.heap H locs := by rw [hH, hlocs]; exact hS
  rw [← hlocs]
  have hW0 : ∀ (R : Room) (Q : State → Prop) (g : JFrame), W p l e R s m ([.ref (ad 0), .int a1]).toArray below meth c H locs 0 0 Q g → W p l e R s m ([.ref (ad 0), .int a1]).toArray below meth c s.heap locs 0 0 Q g := fun R Q g h => by rw [← hH]; exact h
  refine hW0 _ _ _ ?_
  have hl : lv_has ls 2 [(0, .ref (ad 0)), (1, .int a1)] := hl
  refine lv_iload_n hx hb d_Plan_trapped_0 rfl (lv_at hl 1 rfl) ?_
  by_cases c_1 : k_Plan_wantNotBelowZero a1 = 0
  · refine xs (As := [.int a1]) (rest := []) ⟨hx, hb, hml, hown, hts⟩ (c_Plan_wantNotBelowZero l dC dI _ _ a1 c_1) (cw_Plan_146 hts rfl rfl ⟨Nat.le_of_ble_eq_true rfl, Nat.le_of_ble_eq_true rfl⟩) hK hN hP rfl hl.1 rfl (Nat.le_of_ble_eq_true rfl) d_Plan_trapped_1 ⟨Nat.zero_le _, Nat.zero_le _⟩ ?_
    refine lv_aload_n hx hb d_Plan_trapped_4 rfl (lv_at hl 0 rfl) ?_
    refine va_get (D := (dC, dI)) (ci := 8) (v := .ref (ad 4)) (C := R_Plan) (T := F_Plan) (N := 10) hx hb hbw in_Plan hown hK hP 0 rfl rfl 3 (by decide) (hbw _ w_195) (fun _ h9 => h9) rfl d_Plan_trapped_5 ?_
    refine lv_iconst (v := 2) hx hb d_Plan_trapped_8 (by decide) ?_
    refine x_upd (x_runV (C := "PlanRows$Search") (b := (ad 4)) (As := [.int 2]) (rest := []) ⟨hx, hb, hml, hown, hts⟩ (u_Search_spreadFromKind l dC dI cI cZ ad hj x hI H.size 2) (cw_Plan_163 hts rfl rfl ⟨Nat.le_of_ble_eq_true rfl, Nat.le_of_ble_eq_true rfl⟩) ⟨PCZ.blind, va_recv hK hP (ci := 6) (q0 := 4) rfl rfl, PCZ.at hK hN hP⟩ rfl rfl hl.1 rfl (lv_room (Nat.le_of_ble_eq_true rfl)) d_Plan_trapped_9 ⟨Nat.zero_le _, Nat.zero_le _⟩) hS (fun q _ h => hA H hS.1 q h) (fun q h => hA H hS.1 q h) (fun t H1 locs ht hW hB hz1 hk1 hS => ?_)
    obtain ⟨hP, -, -⟩ := hB
    rw [ht] at hP
    generalize H1 = H at hP hS ⊢
    have hD : va_D A (wC cI cZ ad ((g_Search_spreadFromKind x 2).2)) := hDx _
    have hI : CIn ((g_Search_spreadFromKind x 2).2) := ci_sfk hI0 _
    refine lv_aload_n hx hb d_Plan_trapped_12 rfl (lv_at hl 0 rfl) ?_
    refine va_get (D := (dC, dI)) (ci := 8) (v := .ref (ad 4)) (C := R_Plan) (T := F_Plan) (N := 10) hx hb hbw in_Plan hown hK hP 0 rfl rfl 3 (by decide) (hbw _ w_195) (fun _ h9 => h9) rfl d_Plan_trapped_13 ?_
    refine lv_iload_n hx hb d_Plan_trapped_16 rfl (lv_at hl 1 rfl) ?_
    refine xv (As := [.int a1]) (rest := []) (C := "PlanRows$Search") ⟨hx, hb, hml, hown, hts⟩ (c_Search_unreachedAt l dC dI cI cZ ad ((g_Search_spreadFromKind x 2).2) hI a1) (cw_Plan_166 hts rfl rfl ⟨Nat.le_of_ble_eq_true rfl, Nat.le_of_ble_eq_true rfl⟩) hK hN hP 4 rfl rfl rfl rfl hl.1 rfl (Nat.le_of_ble_eq_true rfl) d_Plan_trapped_17 ⟨Nat.zero_le _, Nat.zero_le _⟩ ?_
    have hg : g_Plan_trapped x a1 = (f_Search_unreachedAt ((g_Search_spreadFromKind x 2).2) a1, (g_Search_spreadFromKind x 2).2) := by unfold g_Plan_trapped; rw [if_pos c_1]
    exact W.toX (W.iret (v := f_Search_unreachedAt ((g_Search_spreadFromKind x 2).2) a1) hx hb hr (fun t ht hW => ⟨by rw [hg, pr_fst], ⟨by rw [ht, hg, pr_snd]; exact hP, va_K.moved hW.alike hK, hN.warm hW⟩, hS.F ht⟩) hS.2.2 d_Plan_trapped_20)
  · exact absurd (show k_Plan_trapped x a1 = 2 from by unfold k_Plan_trapped; rw [if_neg c_1]) (by rw [hk]; decide)
