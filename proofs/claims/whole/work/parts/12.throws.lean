/-- z is y but for the way's doors and their number -/
def rt (y z : ST) : Prop := ∃ d n, z = s_rl (s_rd y d) n ∧ 0 ≤ n.toInt ∧ n.toInt ≤ 40
theorem rt_rf {y : ST} (hI : CIn y) : rt y y := ⟨q_rd y, q_rl y, rfl, hI.2.2.2.2.2.1, hI.2.2.2.2.2.2⟩
theorem ci_rt {y z : ST} (hz : rt y z) (hI : CIn y) : CIn z := by
  obtain ⟨d, n, rfl, h1, h2⟩ := hz
  exact ⟨hI.1, hI.2.1, hI.2.2.1, hI.2.2.2.1, hI.2.2.2.2.1, h1, h2⟩
theorem rt_add {y z : ST} (hz : rt y z) (a : Int32) : rt y (g_Route_addBefore z a).2 := by
  obtain ⟨d, n, rfl, h1, h2⟩ := hz
  unfold g_Route_addBefore
  by_cases h : 40 ≤ q_rl (s_rl (s_rd y d) n)
  · rw [if_pos h]; exact ⟨d, n, rfl, h1, h2⟩
  · rw [if_neg h]
    have h : ¬ 40 ≤ n := h
    rw [Int32.le_iff_toInt_le] at h
    have h3 : (40 : Int32).toInt = 40 := rfl
    have h4 : (1 : Int32).toInt = 1 := rfl
    have e1 : (n + 1).toInt = n.toInt + 1 := by
      rw [Int32.toInt_add, h4]
      exact Int.bmod_eq_of_le (by omega) (by omega)
    exact ⟨_, n + 1, rfl, by omega, by omega⟩
theorem ci_restart {x : ST} (hI : CIn x) (a b : Int32) : CIn (g_Route_restart x a b).2 := ⟨hI.1, hI.2.1, hI.2.2.1, hI.2.2.2.1, hI.2.2.2.2.1, by show 0 ≤ (0 : Int32).toInt ∧ (0 : Int32).toInt ≤ 40; decide⟩
def L_Search_tellWayTo (a1 : Int32) : Nat → Int32 → Int32 → ST → Int32 × ST
  | 0, _, _, z => (0, z)
  | k + 1, rm, i, z => if 40 ≤ i then (0, z) else (if (f_Search_isReached z rm) = 0 then (0, z) else (if (f_Search_lowestDoorInto z rm) = (-1) then (0, z) else L_Search_tellWayTo a1 k (f_Doors_roomBehind ((g_Route_addBefore z (f_Search_lowestDoorInto z rm)).2) (f_Search_lowestDoorInto z rm) rm) (i + 1) ((g_Route_addBefore z (f_Search_lowestDoorInto z rm)).2)))
theorem L_Search_tellWayTo_s (a1 : Int32) (k : Nat) (rm i : Int32) (z : ST) : L_Search_tellWayTo a1 (k + 1) rm i z = if 40 ≤ i then (0, z) else (if (f_Search_isReached z rm) = 0 then (0, z) else (if (f_Search_lowestDoorInto z rm) = (-1) then (0, z) else L_Search_tellWayTo a1 k (f_Doors_roomBehind ((g_Route_addBefore z (f_Search_lowestDoorInto z rm)).2) (f_Search_lowestDoorInto z rm) rm) (i + 1) ((g_Route_addBefore z (f_Search_lowestDoorInto z rm)).2))) := rfl
def g_Search_tellWayTo (x : ST) (a1 : Int32) : Int32 × ST := L_Search_tellWayTo a1 41 a1 0 ((g_Route_restart x a1 (f_Search_stairsTo x a1)).2)
set_option maxHeartbeats 400000 in
set_option maxRecDepth 100000 in
theorem u_Search_tellWayTo (l : Launch) (dC : Nat → ClassId) (dI : Nat → Nat → Nat) (cI cZ : ClassId) (ad : Nat → Nat) (hj : aInj 29 ad) (x : ST) (hI : CIn x) (sz : Nat) (a1 : Int32) : MX l y_Search_tellWayTo (Cond.code y_Search_tellWayTo b_Search_tellWayTo 6 none :: BW) { frames := 4, cells := 0, slots := 0, locals := 87 } (PCZ sz (dC, dI) [(cI, .int), (cZ, .boolean)] (wC cI cZ ad x) [.ref (ad 4), .int a1, .ref (ad 5)]) (UQ none (WB (dC, dI) [(cI, .int), (cZ, .boolean)] (wC cI cZ ad (g_Search_tellWayTo x a1).2)) (aC 29 ad sz)) 0 0 (aC 29 ad sz) := by
  refine MX.ofW (cc := b_Search_tellWayTo) (maxL := 6) (ret := none) (by decide) rfl ?_
  intro p e s m args below meth c s₁ B hml hex hv
  obtain ⟨hsz, rfl, hP, hK, hN⟩ := hv
  subst hsz
  have hx := B.exec
  have hb := B.bytes
  have hr := B.returns
  have hts := atoms_spec (ws := Cond.code y_Search_tellWayTo b_Search_tellWayTo 6 none :: BW) B.pre
  have hbw : ∀ w ∈ BW, w.before ([.ref (ad 4), .int a1, .ref (ad 5)]).toArray s = true := fun w h => hts w (List.mem_cons_of_mem _ h)
  have hown : s.vm.findClass "PlanRows$Search" = some m.cls := findClass_of_methodNamed B.named
  have hlocks := B.notSynchronized
  have hDx : ∀ z, va_D (aC 29 ad s.heap.size) (wC cI cZ ad z) := fun z => w_D hj (wC_ad cI cZ ad z) _
  have hA : ∀ H : Heap, s.heap.size ≤ H.size → ∀ q, aC 29 ad H.size q → aC 29 ad s.heap.size q := fun H h => aC_le h
  generalize aC 29 ad s.heap.size = A at hDx hA ⊢
  have hD := hDx x
  have hS : va_S A s.heap s.heap [] := va_S.rf
  have hI0 := hI
  have hl := lv_entry ([.ref (ad 4), .int a1, .ref (ad 5)]) (n := 6) (Nat.le_of_ble_eq_true rfl)
  rw [lg_entry_eq]
  generalize (lg_sl ([.ref (ad 4), .int a1, .ref (ad 5)]) ++ List.replicate (6 - (lg_sl ([.ref (ad 4), .int a1, .ref (ad 5)])).length) Slot.unset).toArray = ls at hl ⊢
  obtain ⟨H, hH⟩ : ∃ H, H = s.heap := ⟨_, rfl⟩
  obtain ⟨locs, hlocs⟩ : ∃ locs : List Loc, locs = [] := ⟨_, rfl⟩
  have hP : va_P (dC, dI) clsA (wC cI cZ ad x) H := by rw [hH]; exact hP
  have hS : va_S A s.heap H locs := by rw [hH, hlocs]; exact hS
  rw [← hlocs]
  have hW0 : ∀ (R : Room) (Q : State → Prop) (g : JFrame), W p l e R s m ([.ref (ad 4), .int a1, .ref (ad 5)]).toArray below meth c H locs 0 0 Q g → W p l e R s m ([.ref (ad 4), .int a1, .ref (ad 5)]).toArray below meth c s.heap locs 0 0 Q g := fun R Q g h => by rw [← hH]; exact h
  refine hW0 _ _ _ ?_
  have hl : lv_has ls 6 [(0, .ref (ad 4)), (1, .int a1), (2, .ref (ad 5))] := hl
  refine lv_aload_n hx hb d_Search_tellWayTo_0 rfl (lv_at hl 2 rfl) ?_
  refine lv_iload_n hx hb d_Search_tellWayTo_1 rfl (lv_at hl 1 rfl) ?_
  refine lv_aload_n hx hb d_Search_tellWayTo_2 rfl (lv_at hl 0 rfl) ?_
  refine lv_iload_n hx hb d_Search_tellWayTo_3 rfl (lv_at hl 1 rfl) ?_
  refine xv (As := [.int a1]) (rest := [.int a1, .ref (ad 5)]) (C := "PlanRows$Search") ⟨hx, hb, hml, hown, hts⟩ (c_Search_stairsTo l dC dI cI cZ ad x hI a1) (cw_Search_89 hts rfl rfl ⟨Nat.le_of_ble_eq_true rfl, Nat.le_of_ble_eq_true rfl⟩) hK hN hP 4 rfl rfl rfl rfl hl.1 rfl (Nat.le_of_ble_eq_true rfl) d_Search_tellWayTo_4 ⟨Nat.zero_le _, Nat.zero_le _⟩ ?_
  refine x_upd (x_runV (C := "PlanRows$Route") (b := (ad 5)) (As := [.int a1, .int (f_Search_stairsTo x a1)]) (rest := []) ⟨hx, hb, hml, hown, hts⟩ (u_Route_restart l dC dI cI cZ ad hj x hI H.size a1 (f_Search_stairsTo x a1)) (cw_Search_92 hts rfl rfl ⟨Nat.le_of_ble_eq_true rfl, Nat.le_of_ble_eq_true rfl⟩) ⟨PCZ.blind, va_recv hK hP (ci := 5) (q0 := 5) rfl rfl, PCZ.at hK hN hP⟩ rfl rfl hl.1 rfl (lv_room (Nat.le_of_ble_eq_true rfl)) d_Search_tellWayTo_7 ⟨Nat.zero_le _, Nat.zero_le _⟩) hS (fun q _ h => hA H hS.1 q h) (fun q h => hA H hS.1 q h) (fun t H1 locs ht hW hB hz1 hk1 hS => ?_)
  obtain ⟨hP, -, -⟩ := hB
  rw [ht] at hP
  generalize H1 = H at hP hS ⊢
  have hD : va_D A (wC cI cZ ad ((g_Route_restart x a1 (f_Search_stairsTo x a1)).2)) := hDx _
  have hY : CIn ((g_Route_restart x a1 (f_Search_stairsTo x a1)).2) := ci_restart hI0 _ _
  have hI := hY
  refine lv_iload_n hx hb d_Search_tellWayTo_10 rfl (lv_at hl 1 rfl) ?_
  refine lv_istore_n (lv' := [(3, .int a1), (0, .ref (ad 4)), (1, .int a1), (2, .ref (ad 5))]) hx hb d_Search_tellWayTo_11 rfl hl (by decide) rfl (fun ls hl => ?_)
  refine lv_iconst (v := 0) hx hb d_Search_tellWayTo_12 (by decide) ?_
  refine lv_istore (lv' := [(4, .int 0), (3, .int a1), (0, .ref (ad 4)), (1, .int a1), (2, .ref (ad 5))]) hx hb d_Search_tellWayTo_13 hl (by decide) rfl (fun ls hl => ?_)
  have loop : ∀ (k : Nat) (rm i : Int32) (z : ST) (ls : Array Slot) (H : Heap) (locs : List Loc), 0 ≤ i.toInt ∧ i.toInt ≤ 40 ∧ 40 - i.toInt < ((k : Nat) : Int) → rt ((g_Route_restart x a1 (f_Search_stairsTo x a1)).2) z → g_Search_tellWayTo x a1 = L_Search_tellWayTo a1 k rm i z → va_P (dC, dI) clsA (wC cI cZ ad z) H → va_S A s.heap H locs → lv_has ls 6 [(4, .int i), (3, .int rm), (0, .ref (ad 4)), (1, .int a1), (2, .ref (ad 5))] → W p l e { frames := 4, cells := 0, slots := 0, locals := 87 } s m ([.ref (ad 4), .int a1, .ref (ad 5)]).toArray below meth c H locs 0 0 (MQX below (UQ none (WB (dC, dI) [(cI, .int), (cZ, .boolean)] (wC cI cZ ad (g_Search_tellWayTo x a1).2)) A) ([.ref (ad 4), .int a1, .ref (ad 5)]).toArray s 0 0 A) (F0 m 15 ls []) := by
    intro k
    induction k with
    | zero =>
      intro rm i z ls H locs hi hz hq hP hS hl
      obtain ⟨h1, h2, h3⟩ := hi
      omega
    | succ k ih =>
      intro rm i z ls H locs hi hz hq hP hS hl
      have hq := hq.trans (L_Search_tellWayTo_s a1 k rm i z)
      have hI := (ci_rt hz hY)
      have hD := hDx z
      refine lv_iload hx hb d_Search_tellWayTo_15 (lv_at hl 0 rfl) ?_
      refine lv_bipush (v := 40) hx hb d_Search_tellWayTo_17 (by decide) ?_
      refine lv_icmp_ge (tgt := 67) hx hb d_Search_tellWayTo_19 (by decide) (fun c_1 => ?_) (fun c_1 => ?_)
      · have hg : g_Search_tellWayTo x a1 = (0, z) := by rw [hq, if_pos c_1]
        exact W.toX (W.vret hx hb hr (fun t ht hW => ⟨rfl, ⟨by rw [ht, hg]; exact hP, va_K.moved hW.alike hK, hN.warm hW⟩, hS.F ht⟩) hS.2.2 d_Search_tellWayTo_67)
      · refine lv_aload_n hx hb d_Search_tellWayTo_22 rfl (lv_at hl 2 rfl) ?_
        refine lv_iload_n hx hb d_Search_tellWayTo_23 rfl (lv_at hl 1 rfl) ?_
        refine xv (As := [.int rm]) (rest := []) (C := "PlanRows$Search") ⟨hx, hb, hml, hown, hts⟩ (c_Search_isReached l dC dI cI cZ ad z hI rm) (cw_Search_74 hts rfl rfl ⟨Nat.le_of_ble_eq_true rfl, Nat.le_of_ble_eq_true rfl⟩) hK hN hP 4 rfl rfl rfl rfl hl.1 rfl (Nat.le_of_ble_eq_true rfl) d_Search_tellWayTo_24 ⟨Nat.zero_le _, Nat.zero_le _⟩ ?_
        refine lv_if_eq (tgt := 67) hx hb d_Search_tellWayTo_27 (by decide) (fun c_2 => ?_) (fun c_2 => ?_)
        · have hg : g_Search_tellWayTo x a1 = (0, z) := by rw [hq, if_neg c_1, if_pos c_2]
          exact W.toX (W.vret hx hb hr (fun t ht hW => ⟨rfl, ⟨by rw [ht, hg]; exact hP, va_K.moved hW.alike hK, hN.warm hW⟩, hS.F ht⟩) hS.2.2 d_Search_tellWayTo_67)
        · refine lv_aload_n hx hb d_Search_tellWayTo_30 rfl (lv_at hl 2 rfl) ?_
          refine lv_iload_n hx hb d_Search_tellWayTo_31 rfl (lv_at hl 1 rfl) ?_
          refine xv (As := [.int rm]) (rest := []) (C := "PlanRows$Search") ⟨hx, hb, hml, hown, hts⟩ (c_Search_lowestDoorInto l dC dI cI cZ ad z hI rm) (cw_Search_98 hts rfl rfl ⟨Nat.le_of_ble_eq_true rfl, Nat.le_of_ble_eq_true rfl⟩) hK hN hP 4 rfl rfl rfl rfl hl.1 rfl (Nat.le_of_ble_eq_true rfl) d_Search_tellWayTo_32 ⟨Nat.zero_le _, Nat.zero_le _⟩ ?_
          refine lv_istore (lv' := [(5, .int (f_Search_lowestDoorInto z rm)), (4, .int i), (3, .int rm), (0, .ref (ad 4)), (1, .int a1), (2, .ref (ad 5))]) hx hb d_Search_tellWayTo_35 hl (by decide) rfl (fun ls hl => ?_)
          refine lv_iload hx hb d_Search_tellWayTo_37 (lv_at hl 0 rfl) ?_
          refine lv_iconst (v := (-1)) hx hb d_Search_tellWayTo_39 (by decide) ?_
          refine lv_icmp_ne (tgt := 44) hx hb d_Search_tellWayTo_40 (by decide) (fun c_3 => ?_) (fun c_3 => ?_)
          · refine lv_aload_n hx hb d_Search_tellWayTo_44 rfl (lv_at hl 5 rfl) ?_
            refine lv_iload hx hb d_Search_tellWayTo_45 (lv_at hl 0 rfl) ?_
            refine x_upd (x_runV (C := "PlanRows$Route") (b := (ad 5)) (As := [.int (f_Search_lowestDoorInto z rm)]) (rest := []) ⟨hx, hb, hml, hown, hts⟩ (u_Route_addBefore l dC dI cI cZ ad hj z hI H.size (f_Search_lowestDoorInto z rm)) (cw_Search_101 hts rfl rfl ⟨Nat.le_of_ble_eq_true rfl, Nat.le_of_ble_eq_true rfl⟩) ⟨PCZ.blind, va_recv hK hP (ci := 5) (q0 := 5) rfl rfl, PCZ.at hK hN hP⟩ rfl rfl hl.1 rfl (lv_room (Nat.le_of_ble_eq_true rfl)) d_Search_tellWayTo_47 ⟨Nat.zero_le _, Nat.zero_le _⟩) hS (fun q _ h => hA H hS.1 q h) (fun q h => hA H hS.1 q h) (fun t H1 locs ht hW hB hz1 hk1 hS => ?_)
            obtain ⟨hP, -, -⟩ := hB
            rw [ht] at hP
            generalize H1 = H at hP hS ⊢
            have hD : va_D A (wC cI cZ ad ((g_Route_addBefore z (f_Search_lowestDoorInto z rm)).2)) := hDx _
            have hI : CIn ((g_Route_addBefore z (f_Search_lowestDoorInto z rm)).2) := ci_rt (rt_add hz _) hY
            refine lv_aload_n hx hb d_Search_tellWayTo_50 rfl (lv_at hl 3 rfl) ?_
            refine va_get (D := (dC, dI)) (ci := 6) (v := .ref (ad 2)) (C := R_Search) (T := F_Search) (N := 4) hx hb hbw in_Search hown hK hP 4 rfl rfl 1 (by decide) (hbw _ w_96) (fun _ h9 => h9) rfl d_Search_tellWayTo_51 ?_
            refine lv_iload hx hb d_Search_tellWayTo_54 (lv_at hl 0 rfl) ?_
            refine lv_iload_n hx hb d_Search_tellWayTo_56 rfl (lv_at hl 2 rfl) ?_
            refine xv (As := [.int (f_Search_lowestDoorInto z rm), .int rm]) (rest := []) (C := "PlanRows$Doors") ⟨hx, hb, hml, hown, hts⟩ (c_Doors_roomBehind l dC dI cI cZ ad ((g_Route_addBefore z (f_Search_lowestDoorInto z rm)).2) hI (f_Search_lowestDoorInto z rm) rm) (cw_Search_104 hts rfl rfl ⟨Nat.le_of_ble_eq_true rfl, Nat.le_of_ble_eq_true rfl⟩) hK hN hP 2 rfl rfl rfl rfl hl.1 rfl (Nat.le_of_ble_eq_true rfl) d_Search_tellWayTo_57 ⟨Nat.zero_le _, Nat.zero_le _⟩ ?_
            refine lv_istore_n (lv' := [(3, .int (f_Doors_roomBehind ((g_Route_addBefore z (f_Search_lowestDoorInto z rm)).2) (f_Search_lowestDoorInto z rm) rm)), (5, .int (f_Search_lowestDoorInto z rm)), (4, .int i), (0, .ref (ad 4)), (1, .int a1), (2, .ref (ad 5))]) hx hb d_Search_tellWayTo_60 rfl hl (by decide) rfl (fun ls hl => ?_)
            refine lv_iinc (v := i + 1) (lv' := [(4, .int (i + 1)), (3, .int (f_Doors_roomBehind ((g_Route_addBefore z (f_Search_lowestDoorInto z rm)).2) (f_Search_lowestDoorInto z rm) rm)), (5, .int (f_Search_lowestDoorInto z rm)), (0, .ref (ad 4)), (1, .int a1), (2, .ref (ad 5))]) hx hb d_Search_tellWayTo_61 hl (k := 2) rfl rfl (by decide) rfl (fun ls hl => ?_)
            refine lv_goto (tgt := 15) hx hb d_Search_tellWayTo_64 (by decide) ?_
            exact ih (f_Doors_roomBehind ((g_Route_addBefore z (f_Search_lowestDoorInto z rm)).2) (f_Search_lowestDoorInto z rm) rm) (i + 1) ((g_Route_addBefore z (f_Search_lowestDoorInto z rm)).2) ls H locs (lp_inc40 hi c_1) (rt_add hz _) (by rw [hq, if_neg c_1, if_neg c_2, if_neg c_3]) hP hS (lv_sub hl [0, 1, 3, 4, 5] rfl)
          · have hg : g_Search_tellWayTo x a1 = (0, z) := by rw [hq, if_neg c_1, if_neg c_2, if_pos c_3]
            exact W.toX (W.vret hx hb hr (fun t ht hW => ⟨rfl, ⟨by rw [ht, hg]; exact hP, va_K.moved hW.alike hK, hN.warm hW⟩, hS.F ht⟩) hS.2.2 d_Search_tellWayTo_43)
  exact loop 41 a1 0 ((g_Route_restart x a1 (f_Search_stairsTo x a1)).2) ls H locs (by decide) (rt_rf hY) (rfl) hP hS (lv_sub hl [0, 1, 2, 3, 4] rfl)
def xnm : Nat → String
  | 1 => "java/lang/IllegalArgumentException"
  | 2 => "java/lang/IndexOutOfBoundsException"
  | 3 => "java/lang/IllegalStateException"
  | _ => "java/lang/UnsupportedOperationException"
def xup : List String := ["java/lang/RuntimeException", "java/lang/Exception"]
def xnW : List Cond := [.declares ⟨"java/lang/RuntimeException", "<init>", "(Ljava/lang/String;)V"⟩, .declares ⟨"java/lang/Exception", "<init>", "(Ljava/lang/String;)V"⟩, .declares ⟨"java/lang/Throwable", "<init>", "(Ljava/lang/String;)V"⟩, .castable (xnm 1) (xnm 1), .castable (xnm 2) (xnm 2), .castable (xnm 3) (xnm 3), .castable (xnm 4) (xnm 4)]
def xhW : List Cond := [.isRef (.static Bundle.tN "UNASSIGNED_STACK" Bundle.steD), .isRef (.static Bundle.tN "SUPPRESSED_SENTINEL" Bundle.listD), .laysStatic Bundle.tN "UNASSIGNED_STACK" Bundle.steD, .laysStatic Bundle.tN "SUPPRESSED_SENTINEL" Bundle.listD]
def strL : List (Nat × String) := [(217, "no such kind of rooms"), (222, "a number is outside its range"), (229, "there is no room for one more"), (212, "no such room"), (103, "a door joins two rooms of the same or neighbouring floors"), (117, "no such key"), (123, "the key is so already"), (225, "a place is below 0"), (161, "no such thing is told of a way"), (175, "the detector is told already"), (181, "no such floor"), (215, "no such window"), (209, "no such thing is counted")]
/-- where a static field lies, its class's statics cell in H -/
def vx_L (C n d : String) (A : Nat → Prop) (U : State) (H : Heap) : Prop := ∃ (c : ClassId) (k : Class) (i : Nat) (f : Field) (a : Nat) (cell : Cell), U.vm.findClass C = some c ∧ U.fieldFound? C n d = some (c, k, i, f) ∧ f.isStatic = true ∧ k.statics = some a ∧ H[a]? = some cell ∧ cell.vm.isStatics = true ∧ cell.cls = c ∧ f.slot < cell.slots.size ∧ k.staticTypes[f.slot]? = some f.type ∧ ¬ A a
theorem vx_L.moved {C n d : String} {A : Nat → Prop} {u U : State} {H : Heap} (hvm : u.vm.Alike U.vm) (h : vx_L C n d A u H) : vx_L C n d A U H := by
  obtain ⟨c, k, i, f, a, cell, h1, h2, h3, h4, h5, h6, h7, h8, h9, h10⟩ := h
  obtain ⟨k', hi', he⟩ := State.fieldFound?_setVm hvm h2
  exact ⟨c, k', i, f, a, cell, by rw [hvm.findClass]; exact h1, hi', h3, by rw [he]; exact h4, h5, h6, h7, h8, by rw [he]; exact h9, h10⟩
theorem vx_L.kept {C n d : String} {A : Nat → Prop} {U : State} {H H1 : Heap} (h : vx_L C n d A U H) (hq : ∀ a : Nat, a < H.size → ¬ A a → H1[a]? = H[a]?) : vx_L C n d A U H1 := by
  obtain ⟨c, k, i, f, a, cell, h1, h2, h3, h4, h5, h6, h7, h8, h9, h10⟩ := h
  exact ⟨c, k, i, f, a, cell, h1, h2, h3, h4, by rw [hq a (Array.getElem?_eq_some_iff.mp h5).1 h10]; exact h5, h6, h7, h8, h9, h10⟩
theorem vx_L.narrow {C n d : String} {A B : Nat → Prop} {U : State} {H : Heap} (h : vx_L C n d A U H) (hAB : ∀ q, B q → A q) : vx_L C n d B U H := by
  obtain ⟨c, k, i, f, a, cell, h1, h2, h3, h4, h5, h6, h7, h8, h9, h10⟩ := h
  exact ⟨c, k, i, f, a, cell, h1, h2, h3, h4, h5, h6, h7, h8, h9, fun z => h10 (hAB _ z)⟩
theorem vx_L.word {C n d : String} {A : Nat → Prop} {s : State} {args : Array Value} (h : vx_L C n d A s s.heap) : (Cond.laysStatic C n d).before args s = true := by
  obtain ⟨c, k, i, f, a, cell, h1, h2, h3, h4, h5, h6, h7, h8, h9, -⟩ := h
  show (Cond.laysStatic C n d).holds args s none s [] = true
  exact Cond.laysStatic_of h1 h2 h3 h4 h5 h6 h7 h8 h9
/-- .. and what it holds: null or some reference -/
def vx_Zq (C n d : String) (A : Nat → Prop) (U : State) (H : Heap) : Prop := va_Zq C n d A U H ∧ vx_L C n d A U H
theorem vx_Zq.moved {C n d : String} {A : Nat → Prop} {u U : State} {H : Heap} (hvm : u.vm.Alike U.vm) (h : vx_Zq C n d A u H) : vx_Zq C n d A U H := ⟨va_Zq.moved hvm h.1, vx_L.moved hvm h.2⟩
theorem vx_Zq.kept {C n d : String} {A : Nat → Prop} {U : State} {H H1 : Heap} (h : vx_Zq C n d A U H) (hq : ∀ a : Nat, a < H.size → ¬ A a → H1[a]? = H[a]?) : vx_Zq C n d A U H1 := ⟨va_Zq.kept h.1 hq, vx_L.kept h.2 hq⟩
theorem vx_Zq.narrow {C n d : String} {A B : Nat → Prop} {U : State} {H : Heap} (h : vx_Zq C n d A U H) (hAB : ∀ q, B q → A q) : vx_Zq C n d B U H := ⟨va_Zq.narrow h.1 hAB, vx_L.narrow h.2 hAB⟩
theorem vx_Zqof {args : Array Value} {s : State} {C n d : String} {A : Nat → Prop} (hl : (Cond.laysStatic C n d).before args s = true) (hini : (Cond.initialized C).before args s = true) (h : (Cond.isRef (.static C n d)).before args s = true) (hA : ∀ a : Nat, a < s.heap.size → ¬ A a) : vx_Zq C n d A s s.heap := by
  refine ⟨va_Zqof hl hini h hA, ?_⟩
  obtain ⟨c, k, i, f, a, cell, h1, h2, h3, h4, h5, h6, h7, h8, h9⟩ := Cond.laysStatic_spec hl
  exact ⟨c, k, i, f, a, cell, h1, h2, h3, h4, h5, h6, h7, h8, h9, hA a (Array.getElem?_eq_some_iff.mp h5).1⟩
theorem vx_isRef {C n d : String} {v : Value} {A : Nat → Prop} {s : State} {args : Array Value} (h : va_Z C n d v A s s.heap) (hv : v.isRef = true) : (Cond.isRef (.static C n d)).before args s = true := by
  obtain ⟨cf, kf, fi, f, a, cell, h1, h2, h3, h4, h5, h6, h7, -⟩ := h
  have he : (Term.static C n d).eval args s none [] s = some v := by
    simp [Term.eval, State.fieldNamed?, h1, h2, h4, h5, h6, h7]
  simp only [Cond.before, Cond.holds, Cond.value, he]
  cases v <;> simp_all [Value.isRef]
theorem vx_isRefq {C n d : String} {A : Nat → Prop} {s : State} {args : Array Value} (h : va_Zq C n d A s s.heap) : (Cond.isRef (.static C n d)).before args s = true := by
  rcases h with h | ⟨t, h⟩
  · exact vx_isRef h rfl
  · exact vx_isRef h rfl
/-- what a throw needs beside the tables' good words -/
def EX (U : State) : Prop := (∀ w ∈ xnW, va_Nw w U) ∧ vx_Zq Bundle.tN "UNASSIGNED_STACK" Bundle.steD (fun _ => False) U U.heap ∧ vx_Zq Bundle.tN "SUPPRESSED_SENTINEL" Bundle.listD (fun _ => False) U U.heap ∧ ∀ q ∈ strL, ∃ a, vk_R "PlanRows" q.1 q.2 a U
theorem xn_castW {a b : String} {s U : State} (hW : s.WarmedH U.vm) (hZ : va_Nw (.castable a b) s) : va_Nw (.castable a b) U := va_tabs rfl (rfl : (s.setVm U.vm).vm = U.vm) (by rw [Cond.castable_setVm hW.alike]; exact hZ)
theorem EX.warm {s U : State} (hW : s.WarmedH U.vm) (hH : U.heap = s.heap) (h : EX s) : EX U := by
  obtain ⟨h1, h2, h3, h4⟩ := h
  refine ⟨fun w hw => ?_, by rw [hH]; exact vx_Zq.moved hW.alike h2, by rw [hH]; exact vx_Zq.moved hW.alike h3, fun q hq => ?_⟩
  · have h5 := h1 w hw
    simp only [xnW, List.mem_cons, List.not_mem_nil, or_false] at hw
    rcases hw with rfl | rfl | rfl | rfl | rfl | rfl | rfl <;> first | exact va_Nw.warmD hW h5 | exact xn_castW hW h5
  · obtain ⟨a, ha⟩ := h4 q hq
    exact ⟨a, ha.warm hW⟩
theorem xn_ot : ∀ w ∈ xnW, w.onTables = true := by decide +kernel
theorem EX.hat {s : State} {args : Array Value} {L : List Cond} (hE : EX s) (hbw : ∀ w ∈ BW, w.before args s = true) (hL : ∀ w ∈ L, w ∈ BW ∨ w ∈ xnW ∨ w ∈ xhW) : ∀ w ∈ L, w.before args s = true := by
  intro w hw
  rcases hL w hw with h | h | h
  · exact hbw w h
  · exact va_Nw.use (xn_ot w h) (hE.1 w h)
  · simp only [xhW, List.mem_cons, List.not_mem_nil, or_false] at h
    rcases h with rfl | rfl | rfl | rfl
    · exact vx_isRefq hE.2.1.1
    · exact vx_isRefq hE.2.2.1.1
    · exact vx_L.word hE.2.1.2
    · exact vx_L.word hE.2.2.1.2
/-- a contract's start of a method that throws -/
def PX (D : va_G) (tys : List (ClassId × FieldType)) (ww : va_W) (av : List Value) : Array Value → State → Prop := fun v U => EX U ∧ PC D tys ww av v U
theorem PX.blind {D : va_G} {tys : List (ClassId × FieldType)} {ww : va_W} {av : List Value} : FrameBlind (PX D tys ww av) := fun a U g mk q => ⟨EX.warm (s := U) (U := U.calling g mk a) (State.WarmedH.refl U) rfl q.1, PC.blind a U g mk q.2⟩
theorem PX.at {s : State} {D : va_G} {tys : List (ClassId × FieldType)} {ww : va_W} {av : List Value} (hE : EX s) (hK : va_K D clsA tys s) (hN : NW s) (hP : va_P D clsA ww s.heap) : ∀ U : State, U.heap = s.heap → s.WarmedH U.vm → PX D tys ww av av.toArray U := fun U hU hW => ⟨hE.warm hW hU, PC.at hK hN hP U hU hW⟩
