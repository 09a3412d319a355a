/-! constructors -/
def uf (l : List Nat) : Nat → Nat := fun k => l.getD k 0
theorem va_nm_bool {s : State} {cA : ClassId} (h : va_RA s cA .boolean) : s.vm.findClass "[Z" = some cA := by
  have e : "[" ++ FieldType.boolean.toString = "[Z" := by decide +kernel
  rw [← e]
  exact h
theorem one_I {D : va_G} {t1 t2 : List (ClassId × FieldType)} {s : State} {a b : ClassId} (h1 : va_K D clsA t1 s) (h2 : va_K D clsA t2 s) (i j : Nat) (e1 : t1[i]? = some (a, .int)) (e2 : t2[j]? = some (b, .int)) : a = b := Option.some.inj ((va_nm_int (h1.2 i _ e1).2).symm.trans (va_nm_int (h2.2 j _ e2).2))
theorem one_Z {D : va_G} {t1 t2 : List (ClassId × FieldType)} {s : State} {a b : ClassId} (h1 : va_K D clsA t1 s) (h2 : va_K D clsA t2 s) (i j : Nat) (e1 : t1[i]? = some (a, .boolean)) (e2 : t2[j]? = some (b, .boolean)) : a = b := Option.some.inj ((va_nm_bool (h1.2 i _ e1).2).symm.trans (va_nm_bool (h2.2 j _ e2).2))
def wi_Rooms (h0 : Nat) : va_W := [(h0, .inr (4, [.null, .null, .null, .int 0]))]
def wf_Rooms (cI cZ : ClassId) (h0 : Nat) (u : Nat → Nat) : va_W := [(h0, .inr (4, [.ref (u 0), .ref (u 1), .ref (u 2), .int 0])), (u 0, .inl (cI, 40, .inl (fun _ => 0))), (u 1, .inl (cI, 40, .inl (fun _ => 0))), (u 2, .inl (cI, 40, .inl (fun _ => 0)))]
set_option maxHeartbeats 1000000 in
set_option maxRecDepth 100000 in
theorem i_Rooms (l : Launch) (dC : Nat → ClassId) (dI : Nat → Nat → Nat) (cI cZ : ClassId) (h0 sz : Nat) : Met l y_Rooms_init (Cond.code y_Rooms_init b_Rooms_init 1 none :: BW) { frames := 1, cells := 3, slots := 120, locals := 12 } (va_Pc [.ref h0] (fun U => U.heap.size = sz ∧ va_P (dC, dI) clsA (wi_Rooms h0) U.heap ∧ va_K (dC, dI) clsA [(cI, .int), (cZ, .boolean)] U ∧ va_D (fun _ => True) (wi_Rooms h0))) (va_Qv (fun _ : Nat → Nat => True) (fun u t => va_P (dC, dI) clsA (wf_Rooms cI cZ h0 u) t.heap ∧ va_D (va_A (wi_Rooms h0) sz) (wf_Rooms cI cZ h0 u)) (va_A (wi_Rooms h0) sz)) 3 120 (va_A (wi_Rooms h0) sz) := by
  refine Met.ofW (cc := b_Rooms_init) (maxL := 1) (ret := none) (by decide) rfl ?_
  intro p e s m args below meth c s₁ B hml hv
  obtain ⟨rfl, hsz, hP, hK, hD0⟩ := hv
  have hx := B.exec
  have hb := B.bytes
  have hr := B.returns
  have hts := atoms_spec (ws := Cond.code y_Rooms_init b_Rooms_init 1 none :: BW) B.pre
  have hbw : ∀ w ∈ BW, w.before ([.ref h0]).toArray s = true := fun w h => hts w (List.mem_cons_of_mem _ h)
  have hown : s.vm.findClass "PlanRows$Rooms" = some m.cls := findClass_of_methodNamed B.named
  have hlocks := B.notSynchronized
  have hin : meth.name = "<init>" := (name_of_methodNamed B.named B.method).1
  subst hsz
  have hD := hD0.self (sz := s.heap.size)
  generalize hAe : va_A (wi_Rooms h0) s.heap.size = A at hD ⊢
  have hA : ∀ q : Nat, s.heap.size ≤ q → A q := fun q h => by rw [← hAe]; exact Or.inr h
  have hS : va_S A s.heap s.heap [] := va_S.rf
  have hl := lv_entry ([.ref h0]) (n := 1) (Nat.le_of_ble_eq_true rfl)
  rw [lg_entry_eq]
  generalize (lg_sl ([.ref h0]) ++ List.replicate (1 - (lg_sl ([.ref h0])).length) Slot.unset).toArray = ls at hl ⊢
  have hl : lv_has ls 1 [(0, .ref h0)] := hl
  refine lv_aload_n hx hb d_Rooms_init_0 rfl (lv_at hl 0 rfl) ?_
  refine W.objInit hx hb hown (hbw _ w_33) (hbw _ w_26) (hbw _ w_27) rfl (by rw [hml]; exact hl.1) rfl d_Rooms_init_1 (Nat.le_of_ble_eq_true rfl) (Nat.le_of_ble_eq_true rfl) ?_
  refine W.eq (g2 := F0 m 4 ls []) rfl ?_
  refine lv_aload_n hx hb d_Rooms_init_4 rfl (lv_at hl 0 rfl) ?_
  refine lv_bipush (v := 40) hx hb d_Rooms_init_5 (by decide) ?_
  refine va_newa (atype := .int) (ty := .int) (a0 := (40, .inl (fun _ => 0))) (N' := 40) hx hb (hbw _ w_49) rfl hK hP hD hS hA (fun _ => rfl) (by decide) (by decide) (by decide) (Nat.le_of_ble_eq_true rfl) (Nat.le_of_ble_eq_true rfl) d_Rooms_init_7 (fun q1 cA H hK1 hP hD hS => ?_)
  have eA : cI = cA := one_I hK hK1 0 2 rfl rfl
  subst eA
  have hP : va_P (dC, dI) clsA [(h0, .inr (4, [.null, .null, .null, .int 0])), (q1, .inl (cI, 40, .inl (fun _ => 0)))] H := hP
  have hD : va_D A [(h0, .inr (4, [.null, .null, .null, .int 0])), (q1, .inl (cI, 40, .inl (fun _ => 0)))] := hD
  refine va_putF (D := (dC, dI)) (ci := 4) (v := .ref q1) (ty := t_Rooms 0) (C := R_Rooms) (T := F_Rooms) (N := 4) hx hb hbw in_Rooms t_Rooms t_Rooms_ok n_Rooms hown hK hP hD hS 0 rfl rfl 0 (by decide) (hbw _ w_34) (fun _ h9 => h9) rfl hin rfl (by decide +kernel) rfl rfl (Nat.le_of_ble_eq_true rfl) d_Rooms_init_9 (fun H locs hP hD hS => ?_)
  have hP : va_P (dC, dI) clsA [(h0, .inr (4, [.ref q1, .null, .null, .int 0])), (q1, .inl (cI, 40, .inl (fun _ => 0)))] H := hP
  have hD : va_D A [(h0, .inr (4, [.ref q1, .null, .null, .int 0])), (q1, .inl (cI, 40, .inl (fun _ => 0)))] := hD
  refine lv_aload_n hx hb d_Rooms_init_12 rfl (lv_at hl 0 rfl) ?_
  refine lv_bipush (v := 40) hx hb d_Rooms_init_13 (by decide) ?_
  refine va_newa (atype := .int) (ty := .int) (a0 := (40, .inl (fun _ => 0))) (N' := 40) hx hb (hbw _ w_49) rfl hK hP hD hS hA (fun _ => rfl) (by decide) (by decide) (by decide) (Nat.le_of_ble_eq_true rfl) (Nat.le_of_ble_eq_true rfl) d_Rooms_init_15 (fun q2 cA H hK1 hP hD hS => ?_)
  have eA : cI = cA := one_I hK hK1 0 2 rfl rfl
  subst eA
  have hP : va_P (dC, dI) clsA [(h0, .inr (4, [.ref q1, .null, .null, .int 0])), (q1, .inl (cI, 40, .inl (fun _ => 0))), (q2, .inl (cI, 40, .inl (fun _ => 0)))] H := hP
  have hD : va_D A [(h0, .inr (4, [.ref q1, .null, .null, .int 0])), (q1, .inl (cI, 40, .inl (fun _ => 0))), (q2, .inl (cI, 40, .inl (fun _ => 0)))] := hD
  refine va_putF (D := (dC, dI)) (ci := 4) (v := .ref q2) (ty := t_Rooms 1) (C := R_Rooms) (T := F_Rooms) (N := 4) hx hb hbw in_Rooms t_Rooms t_Rooms_ok n_Rooms hown hK hP hD hS 0 rfl rfl 1 (by decide) (hbw _ w_35) (fun _ h9 => h9) rfl hin rfl (by decide +kernel) rfl rfl (Nat.le_of_ble_eq_true rfl) d_Rooms_init_17 (fun H locs hP hD hS => ?_)
  have hP : va_P (dC, dI) clsA [(h0, .inr (4, [.ref q1, .ref q2, .null, .int 0])), (q1, .inl (cI, 40, .inl (fun _ => 0))), (q2, .inl (cI, 40, .inl (fun _ => 0)))] H := hP
  have hD : va_D A [(h0, .inr (4, [.ref q1, .ref q2, .null, .int 0])), (q1, .inl (cI, 40, .inl (fun _ => 0))), (q2, .inl (cI, 40, .inl (fun _ => 0)))] := hD
  refine lv_aload_n hx hb d_Rooms_init_20 rfl (lv_at hl 0 rfl) ?_
  refine lv_bipush (v := 40) hx hb d_Rooms_init_21 (by decide) ?_
  refine va_newa (atype := .int) (ty := .int) (a0 := (40, .inl (fun _ => 0))) (N' := 40) hx hb (hbw _ w_49) rfl hK hP hD hS hA (fun _ => rfl) (by decide) (by decide) (by decide) (Nat.le_of_ble_eq_true rfl) (Nat.le_of_ble_eq_true rfl) d_Rooms_init_23 (fun q3 cA H hK1 hP hD hS => ?_)
  have eA : cI = cA := one_I hK hK1 0 2 rfl rfl
  subst eA
  have hP : va_P (dC, dI) clsA [(h0, .inr (4, [.ref q1, .ref q2, .null, .int 0])), (q1, .inl (cI, 40, .inl (fun _ => 0))), (q2, .inl (cI, 40, .inl (fun _ => 0))), (q3, .inl (cI, 40, .inl (fun _ => 0)))] H := hP
  have hD : va_D A [(h0, .inr (4, [.ref q1, .ref q2, .null, .int 0])), (q1, .inl (cI, 40, .inl (fun _ => 0))), (q2, .inl (cI, 40, .inl (fun _ => 0))), (q3, .inl (cI, 40, .inl (fun _ => 0)))] := hD
  refine va_putF (D := (dC, dI)) (ci := 4) (v := .ref q3) (ty := t_Rooms 2) (C := R_Rooms) (T := F_Rooms) (N := 4) hx hb hbw in_Rooms t_Rooms t_Rooms_ok n_Rooms hown hK hP hD hS 0 rfl rfl 2 (by decide) (hbw _ w_36) (fun _ h9 => h9) rfl hin rfl (by decide +kernel) rfl rfl (Nat.le_of_ble_eq_true rfl) d_Rooms_init_25 (fun H locs hP hD hS => ?_)
  have hP : va_P (dC, dI) clsA [(h0, .inr (4, [.ref q1, .ref q2, .ref q3, .int 0])), (q1, .inl (cI, 40, .inl (fun _ => 0))), (q2, .inl (cI, 40, .inl (fun _ => 0))), (q3, .inl (cI, 40, .inl (fun _ => 0)))] H := hP
  have hD : va_D A [(h0, .inr (4, [.ref q1, .ref q2, .ref q3, .int 0])), (q1, .inl (cI, 40, .inl (fun _ => 0))), (q2, .inl (cI, 40, .inl (fun _ => 0))), (q3, .inl (cI, 40, .inl (fun _ => 0)))] := hD
  refine W.widen (k := 3) (n := 120) (Nat.le_of_ble_eq_true rfl) (Nat.le_of_ble_eq_true rfl) ?_
  exact W.vret hx hb hr (fun t ht hW => ⟨⟨uf [q1, q2, q3], rfl, trivial, by rw [ht]; exact hP, hD⟩, hS.F ht⟩) hS.2.2 d_Rooms_init_28
def wi_Doors (h0 : Nat) : va_W := [(h0, .inr (2, [.null, .null, .null, .null, .int 0]))]
def wf_Doors (cI cZ : ClassId) (h0 : Nat) (u : Nat → Nat) : va_W := [(h0, .inr (2, [.ref (u 0), .ref (u 1), .ref (u 2), .ref (u 3), .int 0])), (u 0, .inl (cI, 80, .inl (fun _ => 0))), (u 1, .inl (cI, 80, .inl (fun _ => 0))), (u 2, .inl (cI, 80, .inl (fun _ => 0))), (u 3, .inl (cI, 80, .inl (fun _ => 0)))]
set_option maxHeartbeats 1000000 in
set_option maxRecDepth 100000 in
theorem i_Doors (l : Launch) (dC : Nat → ClassId) (dI : Nat → Nat → Nat) (cI cZ : ClassId) (h0 sz : Nat) : Met l y_Doors_init (Cond.code y_Doors_init b_Doors_init 1 none :: BW) { frames := 1, cells := 4, slots := 320, locals := 12 } (va_Pc [.ref h0] (fun U => U.heap.size = sz ∧ va_P (dC, dI) clsA (wi_Doors h0) U.heap ∧ va_K (dC, dI) clsA [(cI, .int), (cZ, .boolean)] U ∧ va_D (fun _ => True) (wi_Doors h0))) (va_Qv (fun _ : Nat → Nat => True) (fun u t => va_P (dC, dI) clsA (wf_Doors cI cZ h0 u) t.heap ∧ va_D (va_A (wi_Doors h0) sz) (wf_Doors cI cZ h0 u)) (va_A (wi_Doors h0) sz)) 4 320 (va_A (wi_Doors h0) sz) := by
  refine Met.ofW (cc := b_Doors_init) (maxL := 1) (ret := none) (by decide) rfl ?_
  intro p e s m args below meth c s₁ B hml hv
  obtain ⟨rfl, hsz, hP, hK, hD0⟩ := hv
  have hx := B.exec
  have hb := B.bytes
  have hr := B.returns
  have hts := atoms_spec (ws := Cond.code y_Doors_init b_Doors_init 1 none :: BW) B.pre
  have hbw : ∀ w ∈ BW, w.before ([.ref h0]).toArray s = true := fun w h => hts w (List.mem_cons_of_mem _ h)
  have hown : s.vm.findClass "PlanRows$Doors" = some m.cls := findClass_of_methodNamed B.named
  have hlocks := B.notSynchronized
  have hin : meth.name = "<init>" := (name_of_methodNamed B.named B.method).1
  subst hsz
  have hD := hD0.self (sz := s.heap.size)
  generalize hAe : va_A (wi_Doors h0) s.heap.size = A at hD ⊢
  have hA : ∀ q : Nat, s.heap.size ≤ q → A q := fun q h => by rw [← hAe]; exact Or.inr h
  have hS : va_S A s.heap s.heap [] := va_S.rf
  have hl := lv_entry ([.ref h0]) (n := 1) (Nat.le_of_ble_eq_true rfl)
  rw [lg_entry_eq]
  generalize (lg_sl ([.ref h0]) ++ List.replicate (1 - (lg_sl ([.ref h0])).length) Slot.unset).toArray = ls at hl ⊢
  have hl : lv_has ls 1 [(0, .ref h0)] := hl
  refine lv_aload_n hx hb d_Doors_init_0 rfl (lv_at hl 0 rfl) ?_
  refine W.objInit hx hb hown (hbw _ w_55) (hbw _ w_26) (hbw _ w_27) rfl (by rw [hml]; exact hl.1) rfl d_Doors_init_1 (Nat.le_of_ble_eq_true rfl) (Nat.le_of_ble_eq_true rfl) ?_
  refine W.eq (g2 := F0 m 4 ls []) rfl ?_
  refine lv_aload_n hx hb d_Doors_init_4 rfl (lv_at hl 0 rfl) ?_
  refine lv_bipush (v := 80) hx hb d_Doors_init_5 (by decide) ?_
  refine va_newa (atype := .int) (ty := .int) (a0 := (80, .inl (fun _ => 0))) (N' := 80) hx hb (hbw _ w_49) rfl hK hP hD hS hA (fun _ => rfl) (by decide) (by decide) (by decide) (Nat.le_of_ble_eq_true rfl) (Nat.le_of_ble_eq_true rfl) d_Doors_init_7 (fun q1 cA H hK1 hP hD hS => ?_)
  have eA : cI = cA := one_I hK hK1 0 2 rfl rfl
  subst eA
  have hP : va_P (dC, dI) clsA [(h0, .inr (2, [.null, .null, .null, .null, .int 0])), (q1, .inl (cI, 80, .inl (fun _ => 0)))] H := hP
  have hD : va_D A [(h0, .inr (2, [.null, .null, .null, .null, .int 0])), (q1, .inl (cI, 80, .inl (fun _ => 0)))] := hD
  refine va_putF (D := (dC, dI)) (ci := 2) (v := .ref q1) (ty := t_Doors 0) (C := R_Doors) (T := F_Doors) (N := 5) hx hb hbw in_Doors t_Doors t_Doors_ok n_Doors hown hK hP hD hS 0 rfl rfl 0 (by decide) (hbw _ w_56) (fun _ h9 => h9) rfl hin rfl (by decide +kernel) rfl rfl (Nat.le_of_ble_eq_true rfl) d_Doors_init_9 (fun H locs hP hD hS => ?_)
  have hP : va_P (dC, dI) clsA [(h0, .inr (2, [.ref q1, .null, .null, .null, .int 0])), (q1, .inl (cI, 80, .inl (fun _ => 0)))] H := hP
  have hD : va_D A [(h0, .inr (2, [.ref q1, .null, .null, .null, .int 0])), (q1, .inl (cI, 80, .inl (fun _ => 0)))] := hD
  refine lv_aload_n hx hb d_Doors_init_12 rfl (lv_at hl 0 rfl) ?_
  refine lv_bipush (v := 80) hx hb d_Doors_init_13 (by decide) ?_
  refine va_newa (atype := .int) (ty := .int) (a0 := (80, .inl (fun _ => 0))) (N' := 80) hx hb (hbw _ w_49) rfl hK hP hD hS hA (fun _ => rfl) (by decide) (by decide) (by decide) (Nat.le_of_ble_eq_true rfl) (Nat.le_of_ble_eq_true rfl) d_Doors_init_15 (fun q2 cA H hK1 hP hD hS => ?_)
  have eA : cI = cA := one_I hK hK1 0 2 rfl rfl
  subst eA
  have hP : va_P (dC, dI) clsA [(h0, .inr (2, [.ref q1, .null, .null, .null, .int 0])), (q1, .inl (cI, 80, .inl (fun _ => 0))), (q2, .inl (cI, 80, .inl (fun _ => 0)))] H := hP
  have hD : va_D A [(h0, .inr (2, [.ref q1, .null, .null, .null, .int 0])), (q1, .inl (cI, 80, .inl (fun _ => 0))), (q2, .inl (cI, 80, .inl (fun _ => 0)))] := hD
  refine va_putF (D := (dC, dI)) (ci := 2) (v := .ref q2) (ty := t_Doors 1) (C := R_Doors) (T := F_Doors) (N := 5) hx hb hbw in_Doors t_Doors t_Doors_ok n_Doors hown hK hP hD hS 0 rfl rfl 1 (by decide) (hbw _ w_57) (fun _ h9 => h9) rfl hin rfl (by decide +kernel) rfl rfl (Nat.le_of_ble_eq_true rfl) d_Doors_init_17 (fun H locs hP hD hS => ?_)
  have hP : va_P (dC, dI) clsA [(h0, .inr (2, [.ref q1, .ref q2, .null, .null, .int 0])), (q1, .inl (cI, 80, .inl (fun _ => 0))), (q2, .inl (cI, 80, .inl (fun _ => 0)))] H := hP
  have hD : va_D A [(h0, .inr (2, [.ref q1, .ref q2, .null, .null, .int 0])), (q1, .inl (cI, 80, .inl (fun _ => 0))), (q2, .inl (cI, 80, .inl (fun _ => 0)))] := hD
  refine lv_aload_n hx hb d_Doors_init_20 rfl (lv_at hl 0 rfl) ?_
  refine lv_bipush (v := 80) hx hb d_Doors_init_21 (by decide) ?_
  refine va_newa (atype := .int) (ty := .int) (a0 := (80, .inl (fun _ => 0))) (N' := 80) hx hb (hbw _ w_49) rfl hK hP hD hS hA (fun _ => rfl) (by decide) (by decide) (by decide) (Nat.le_of_ble_eq_true rfl) (Nat.le_of_ble_eq_true rfl) d_Doors_init_23 (fun q3 cA H hK1 hP hD hS => ?_)
  have eA : cI = cA := one_I hK hK1 0 2 rfl rfl
  subst eA
  have hP : va_P (dC, dI) clsA [(h0, .inr (2, [.ref q1, .ref q2, .null, .null, .int 0])), (q1, .inl (cI, 80, .inl (fun _ => 0))), (q2, .inl (cI, 80, .inl (fun _ => 0))), (q3, .inl (cI, 80, .inl (fun _ => 0)))] H := hP
  have hD : va_D A [(h0, .inr (2, [.ref q1, .ref q2, .null, .null, .int 0])), (q1, .inl (cI, 80, .inl (fun _ => 0))), (q2, .inl (cI, 80, .inl (fun _ => 0))), (q3, .inl (cI, 80, .inl (fun _ => 0)))] := hD
  refine va_putF (D := (dC, dI)) (ci := 2) (v := .ref q3) (ty := t_Doors 2) (C := R_Doors) (T := F_Doors) (N := 5) hx hb hbw in_Doors t_Doors t_Doors_ok n_Doors hown hK hP hD hS 0 rfl rfl 2 (by decide) (hbw _ w_58) (fun _ h9 => h9) rfl hin rfl (by decide +kernel) rfl rfl (Nat.le_of_ble_eq_true rfl) d_Doors_init_25 (fun H locs hP hD hS => ?_)
  have hP : va_P (dC, dI) clsA [(h0, .inr (2, [.ref q1, .ref q2, .ref q3, .null, .int 0])), (q1, .inl (cI, 80, .inl (fun _ => 0))), (q2, .inl (cI, 80, .inl (fun _ => 0))), (q3, .inl (cI, 80, .inl (fun _ => 0)))] H := hP
  have hD : va_D A [(h0, .inr (2, [.ref q1, .ref q2, .ref q3, .null, .int 0])), (q1, .inl (cI, 80, .inl (fun _ => 0))), (q2, .inl (cI, 80, .inl (fun _ => 0))), (q3, .inl (cI, 80, .inl (fun _ => 0)))] := hD
  refine lv_aload_n hx hb d_Doors_init_28 rfl (lv_at hl 0 rfl) ?_
  refine lv_bipush (v := 80) hx hb d_Doors_init_29 (by decide) ?_
  refine va_newa (atype := .int) (ty := .int) (a0 := (80, .inl (fun _ => 0))) (N' := 80) hx hb (hbw _ w_49) rfl hK hP hD hS hA (fun _ => rfl) (by decide) (by decide) (by decide) (Nat.le_of_ble_eq_true rfl) (Nat.le_of_ble_eq_true rfl) d_Doors_init_31 (fun q4 cA H hK1 hP hD hS => ?_)
  have eA : cI = cA := one_I hK hK1 0 2 rfl rfl
  subst eA
  have hP : va_P (dC, dI) clsA [(h0, .inr (2, [.ref q1, .ref q2, .ref q3, .null, .int 0])), (q1, .inl (cI, 80, .inl (fun _ => 0))), (q2, .inl (cI, 80, .inl (fun _ => 0))), (q3, .inl (cI, 80, .inl (fun _ => 0))), (q4, .inl (cI, 80, .inl (fun _ => 0)))] H := hP
  have hD : va_D A [(h0, .inr (2, [.ref q1, .ref q2, .ref q3, .null, .int 0])), (q1, .inl (cI, 80, .inl (fun _ => 0))), (q2, .inl (cI, 80, .inl (fun _ => 0))), (q3, .inl (cI, 80, .inl (fun _ => 0))), (q4, .inl (cI, 80, .inl (fun _ => 0)))] := hD
  refine va_putF (D := (dC, dI)) (ci := 2) (v := .ref q4) (ty := t_Doors 3) (C := R_Doors) (T := F_Doors) (N := 5) hx hb hbw in_Doors t_Doors t_Doors_ok n_Doors hown hK hP hD hS 0 rfl rfl 3 (by decide) (hbw _ w_59) (fun _ h9 => h9) rfl hin rfl (by decide +kernel) rfl rfl (Nat.le_of_ble_eq_true rfl) d_Doors_init_33 (fun H locs hP hD hS => ?_)
  have hP : va_P (dC, dI) clsA [(h0, .inr (2, [.ref q1, .ref q2, .ref q3, .ref q4, .int 0])), (q1, .inl (cI, 80, .inl (fun _ => 0))), (q2, .inl (cI, 80, .inl (fun _ => 0))), (q3, .inl (cI, 80, .inl (fun _ => 0))), (q4, .inl (cI, 80, .inl (fun _ => 0)))] H := hP
  have hD : va_D A [(h0, .inr (2, [.ref q1, .ref q2, .ref q3, .ref q4, .int 0])), (q1, .inl (cI, 80, .inl (fun _ => 0))), (q2, .inl (cI, 80, .inl (fun _ => 0))), (q3, .inl (cI, 80, .inl (fun _ => 0))), (q4, .inl (cI, 80, .inl (fun _ => 0)))] := hD
  refine W.widen (k := 4) (n := 320) (Nat.le_of_ble_eq_true rfl) (Nat.le_of_ble_eq_true rfl) ?_
  exact W.vret hx hb hr (fun t ht hW => ⟨⟨uf [q1, q2, q3, q4], rfl, trivial, by rw [ht]; exact hP, hD⟩, hS.F ht⟩) hS.2.2 d_Doors_init_36
def wi_Keys (h0 : Nat) : va_W := [(h0, .inr (3, [.null, .int 0]))]
def wf_Keys (cI cZ : ClassId) (h0 : Nat) (u : Nat → Nat) : va_W := [(h0, .inr (3, [.ref (u 0), .int 0])), (u 0, .inl (cZ, 31, .inl (fun _ => 0)))]
set_option maxHeartbeats 1000000 in
set_option maxRecDepth 100000 in
theorem i_Keys (l : Launch) (dC : Nat → ClassId) (dI : Nat → Nat → Nat) (cI cZ : ClassId) (h0 sz : Nat) : Met l y_Keys_init (Cond.code y_Keys_init b_Keys_init 1 none :: BW) { frames := 1, cells := 1, slots := 31, locals := 12 } (va_Pc [.ref h0] (fun U => U.heap.size = sz ∧ va_P (dC, dI) clsA (wi_Keys h0) U.heap ∧ va_K (dC, dI) clsA [(cI, .int), (cZ, .boolean)] U ∧ va_D (fun _ => True) (wi_Keys h0))) (va_Qv (fun _ : Nat → Nat => True) (fun u t => va_P (dC, dI) clsA (wf_Keys cI cZ h0 u) t.heap ∧ va_D (va_A (wi_Keys h0) sz) (wf_Keys cI cZ h0 u)) (va_A (wi_Keys h0) sz)) 1 31 (va_A (wi_Keys h0) sz) := by
  refine Met.ofW (cc := b_Keys_init) (maxL := 1) (ret := none) (by decide) rfl ?_
  intro p e s m args below meth c s₁ B hml hv
  obtain ⟨rfl, hsz, hP, hK, hD0⟩ := hv
  have hx := B.exec
  have hb := B.bytes
  have hr := B.returns
  have hts := atoms_spec (ws := Cond.code y_Keys_init b_Keys_init 1 none :: BW) B.pre
  have hbw : ∀ w ∈ BW, w.before ([.ref h0]).toArray s = true := fun w h => hts w (List.mem_cons_of_mem _ h)
  have hown : s.vm.findClass "PlanRows$KeyRing" = some m.cls := findClass_of_methodNamed B.named
  have hlocks := B.notSynchronized
  have hin : meth.name = "<init>" := (name_of_methodNamed B.named B.method).1
  subst hsz
  have hD := hD0.self (sz := s.heap.size)
  generalize hAe : va_A (wi_Keys h0) s.heap.size = A at hD ⊢
  have hA : ∀ q : Nat, s.heap.size ≤ q → A q := fun q h => by rw [← hAe]; exact Or.inr h
  have hS : va_S A s.heap s.heap [] := va_S.rf
  have hl := lv_entry ([.ref h0]) (n := 1) (Nat.le_of_ble_eq_true rfl)
  rw [lg_entry_eq]
  generalize (lg_sl ([.ref h0]) ++ List.replicate (1 - (lg_sl ([.ref h0])).length) Slot.unset).toArray = ls at hl ⊢
  have hl : lv_has ls 1 [(0, .ref h0)] := hl
  refine lv_aload_n hx hb d_Keys_init_0 rfl (lv_at hl 0 rfl) ?_
  refine W.objInit hx hb hown (hbw _ w_79) (hbw _ w_26) (hbw _ w_27) rfl (by rw [hml]; exact hl.1) rfl d_Keys_init_1 (Nat.le_of_ble_eq_true rfl) (Nat.le_of_ble_eq_true rfl) ?_
  refine W.eq (g2 := F0 m 4 ls []) rfl ?_
  refine lv_aload_n hx hb d_Keys_init_4 rfl (lv_at hl 0 rfl) ?_
  refine lv_bipush (v := 31) hx hb d_Keys_init_5 (by decide) ?_
  refine va_newa (atype := .boolean) (ty := .boolean) (a0 := (31, .inl (fun _ => 0))) (N' := 31) hx hb (hbw _ w_88) rfl hK hP hD hS hA (fun _ => rfl) (by decide) (by decide) (by decide) (Nat.le_of_ble_eq_true rfl) (Nat.le_of_ble_eq_true rfl) d_Keys_init_7 (fun q1 cA H hK1 hP hD hS => ?_)
  have eA : cZ = cA := one_Z hK hK1 1 2 rfl rfl
  subst eA
  have hP : va_P (dC, dI) clsA [(h0, .inr (3, [.null, .int 0])), (q1, .inl (cZ, 31, .inl (fun _ => 0)))] H := hP
  have hD : va_D A [(h0, .inr (3, [.null, .int 0])), (q1, .inl (cZ, 31, .inl (fun _ => 0)))] := hD
  refine va_putF (D := (dC, dI)) (ci := 3) (v := .ref q1) (ty := t_Keys 0) (C := R_Keys) (T := F_Keys) (N := 2) hx hb hbw in_Keys t_Keys t_Keys_ok n_Keys hown hK hP hD hS 0 rfl rfl 0 (by decide) (hbw _ w_80) (fun _ h9 => h9) rfl hin rfl (by decide +kernel) rfl rfl (Nat.le_of_ble_eq_true rfl) d_Keys_init_9 (fun H locs hP hD hS => ?_)
  have hP : va_P (dC, dI) clsA [(h0, .inr (3, [.ref q1, .int 0])), (q1, .inl (cZ, 31, .inl (fun _ => 0)))] H := hP
  have hD : va_D A [(h0, .inr (3, [.ref q1, .int 0])), (q1, .inl (cZ, 31, .inl (fun _ => 0)))] := hD
  refine W.widen (k := 1) (n := 31) (Nat.le_of_ble_eq_true rfl) (Nat.le_of_ble_eq_true rfl) ?_
  exact W.vret hx hb hr (fun t ht hW => ⟨⟨uf [q1], rfl, trivial, by rw [ht]; exact hP, hD⟩, hS.F ht⟩) hS.2.2 d_Keys_init_12
def wi_Route (h0 : Nat) : va_W := [(h0, .inr (5, [.null, .int 0, .int 0, .int 0]))]
def wf_Route (cI cZ : ClassId) (h0 : Nat) (u : Nat → Nat) : va_W := [(h0, .inr (5, [.ref (u 0), .int 0, .int 0, .int (-1)])), (u 0, .inl (cI, 40, .inl (fun _ => 0)))]
set_option maxHeartbeats 1000000 in
set_option maxRecDepth 100000 in
theorem i_Route (l : Launch) (dC : Nat → ClassId) (dI : Nat → Nat → Nat) (cI cZ : ClassId) (h0 sz : Nat) : Met l y_Route_init (Cond.code y_Route_init b_Route_init 1 none :: BW) { frames := 1, cells := 1, slots := 40, locals := 12 } (va_Pc [.ref h0] (fun U => U.heap.size = sz ∧ va_P (dC, dI) clsA (wi_Route h0) U.heap ∧ va_K (dC, dI) clsA [(cI, .int), (cZ, .boolean)] U ∧ va_D (fun _ => True) (wi_Route h0))) (va_Qv (fun _ : Nat → Nat => True) (fun u t => va_P (dC, dI) clsA (wf_Route cI cZ h0 u) t.heap ∧ va_D (va_A (wi_Route h0) sz) (wf_Route cI cZ h0 u)) (va_A (wi_Route h0) sz)) 1 40 (va_A (wi_Route h0) sz) := by
  refine Met.ofW (cc := b_Route_init) (maxL := 1) (ret := none) (by decide) rfl ?_
  intro p e s m args below meth c s₁ B hml hv
  obtain ⟨rfl, hsz, hP, hK, hD0⟩ := hv
  have hx := B.exec
  have hb := B.bytes
  have hr := B.returns
  have hts := atoms_spec (ws := Cond.code y_Route_init b_Route_init 1 none :: BW) B.pre
  have hbw : ∀ w ∈ BW, w.before ([.ref h0]).toArray s = true := fun w h => hts w (List.mem_cons_of_mem _ h)
  have hown : s.vm.findClass "PlanRows$Route" = some m.cls := findClass_of_methodNamed B.named
  have hlocks := B.notSynchronized
  have hin : meth.name = "<init>" := (name_of_methodNamed B.named B.method).1
  subst hsz
  have hD := hD0.self (sz := s.heap.size)
  generalize hAe : va_A (wi_Route h0) s.heap.size = A at hD ⊢
  have hA : ∀ q : Nat, s.heap.size ≤ q → A q := fun q h => by rw [← hAe]; exact Or.inr h
  have hS : va_S A s.heap s.heap [] := va_S.rf
  have hl := lv_entry ([.ref h0]) (n := 1) (Nat.le_of_ble_eq_true rfl)
  rw [lg_entry_eq]
  generalize (lg_sl ([.ref h0]) ++ List.replicate (1 - (lg_sl ([.ref h0])).length) Slot.unset).toArray = ls at hl ⊢
  have hl : lv_has ls 1 [(0, .ref h0)] := hl
  refine lv_aload_n hx hb d_Route_init_0 rfl (lv_at hl 0 rfl) ?_
  refine W.objInit hx hb hown (hbw _ w_113) (hbw _ w_26) (hbw _ w_27) rfl (by rw [hml]; exact hl.1) rfl d_Route_init_1 (Nat.le_of_ble_eq_true rfl) (Nat.le_of_ble_eq_true rfl) ?_
  refine W.eq (g2 := F0 m 4 ls []) rfl ?_
  refine lv_aload_n hx hb d_Route_init_4 rfl (lv_at hl 0 rfl) ?_
  refine lv_bipush (v := 40) hx hb d_Route_init_5 (by decide) ?_
  refine va_newa (atype := .int) (ty := .int) (a0 := (40, .inl (fun _ => 0))) (N' := 40) hx hb (hbw _ w_49) rfl hK hP hD hS hA (fun _ => rfl) (by decide) (by decide) (by decide) (Nat.le_of_ble_eq_true rfl) (Nat.le_of_ble_eq_true rfl) d_Route_init_7 (fun q1 cA H hK1 hP hD hS => ?_)
  have eA : cI = cA := one_I hK hK1 0 2 rfl rfl
  subst eA
  have hP : va_P (dC, dI) clsA [(h0, .inr (5, [.null, .int 0, .int 0, .int 0])), (q1, .inl (cI, 40, .inl (fun _ => 0)))] H := hP
  have hD : va_D A [(h0, .inr (5, [.null, .int 0, .int 0, .int 0])), (q1, .inl (cI, 40, .inl (fun _ => 0)))] := hD
  refine va_putF (D := (dC, dI)) (ci := 5) (v := .ref q1) (ty := t_Route 0) (C := R_Route) (T := F_Route) (N := 4) hx hb hbw in_Route t_Route t_Route_ok n_Route hown hK hP hD hS 0 rfl rfl 0 (by decide) (hbw _ w_114) (fun _ h9 => h9) rfl hin rfl (by decide +kernel) rfl rfl (Nat.le_of_ble_eq_true rfl) d_Route_init_9 (fun H locs hP hD hS => ?_)
  have hP : va_P (dC, dI) clsA [(h0, .inr (5, [.ref q1, .int 0, .int 0, .int 0])), (q1, .inl (cI, 40, .inl (fun _ => 0)))] H := hP
  have hD : va_D A [(h0, .inr (5, [.ref q1, .int 0, .int 0, .int 0])), (q1, .inl (cI, 40, .inl (fun _ => 0)))] := hD
  refine lv_aload_n hx hb d_Route_init_12 rfl (lv_at hl 0 rfl) ?_
  refine lv_iconst (v := (-1)) hx hb d_Route_init_13 (by decide) ?_
  refine va_put (D := (dC, dI)) (ci := 5) (v := .int (-1)) (ty := t_Route 3) (C := R_Route) (T := F_Route) (N := 4) hx hb hbw in_Route t_Route t_Route_ok n_Route hown hK hP hD hS 0 rfl rfl 3 (by decide) (hbw _ w_119) (fun _ h9 => h9) rfl (by decide +kernel) rfl rfl (Nat.le_of_ble_eq_true rfl) d_Route_init_14 (fun H locs hP hD hS => ?_)
  have hP : va_P (dC, dI) clsA [(h0, .inr (5, [.ref q1, .int 0, .int 0, .int (-1)])), (q1, .inl (cI, 40, .inl (fun _ => 0)))] H := hP
  have hD : va_D A [(h0, .inr (5, [.ref q1, .int 0, .int 0, .int (-1)])), (q1, .inl (cI, 40, .inl (fun _ => 0)))] := hD
  refine W.widen (k := 1) (n := 40) (Nat.le_of_ble_eq_true rfl) (Nat.le_of_ble_eq_true rfl) ?_
  exact W.vret hx hb hr (fun t ht hW => ⟨⟨uf [q1], rfl, trivial, by rw [ht]; exact hP, hD⟩, hS.F ht⟩) hS.2.2 d_Route_init_17
def wi_Det (h0 : Nat) : va_W := [(h0, .inr (1, [.null, .null, .null, .int 0]))]
def wf_Det (cI cZ : ClassId) (h0 : Nat) (u : Nat → Nat) : va_W := [(h0, .inr (1, [.ref (u 0), .ref (u 1), .ref (u 2), .int 0])), (u 0, .inl (cI, 100, .inl (fun _ => 0))), (u 1, .inl (cI, 100, .inl (fun _ => 0))), (u 2, .inl (cI, 100, .inl (fun _ => 0)))]
set_option maxHeartbeats 1000000 in
set_option maxRecDepth 100000 in
theorem i_Det (l : Launch) (dC : Nat → ClassId) (dI : Nat → Nat → Nat) (cI cZ : ClassId) (h0 sz : Nat) : Met l y_Det_init (Cond.code y_Det_init b_Det_init 1 none :: BW) { frames := 1, cells := 3, slots := 300, locals := 12 } (va_Pc [.ref h0] (fun U => U.heap.size = sz ∧ va_P (dC, dI) clsA (wi_Det h0) U.heap ∧ va_K (dC, dI) clsA [(cI, .int), (cZ, .boolean)] U ∧ va_D (fun _ => True) (wi_Det h0))) (va_Qv (fun _ : Nat → Nat => True) (fun u t => va_P (dC, dI) clsA (wf_Det cI cZ h0 u) t.heap ∧ va_D (va_A (wi_Det h0) sz) (wf_Det cI cZ h0 u)) (va_A (wi_Det h0) sz)) 3 300 (va_A (wi_Det h0) sz) := by
  refine Met.ofW (cc := b_Det_init) (maxL := 1) (ret := none) (by decide) rfl ?_
  intro p e s m args below meth c s₁ B hml hv
  obtain ⟨rfl, hsz, hP, hK, hD0⟩ := hv
  have hx := B.exec
  have hb := B.bytes
  have hr := B.returns
  have hts := atoms_spec (ws := Cond.code y_Det_init b_Det_init 1 none :: BW) B.pre
  have hbw : ∀ w ∈ BW, w.before ([.ref h0]).toArray s = true := fun w h => hts w (List.mem_cons_of_mem _ h)
  have hown : s.vm.findClass "PlanRows$Detectors" = some m.cls := findClass_of_methodNamed B.named
  have hlocks := B.notSynchronized
  have hin : meth.name = "<init>" := (name_of_methodNamed B.named B.method).1
  subst hsz
  have hD := hD0.self (sz := s.heap.size)
  generalize hAe : va_A (wi_Det h0) s.heap.size = A at hD ⊢
  have hA : ∀ q : Nat, s.heap.size ≤ q → A q := fun q h => by rw [← hAe]; exact Or.inr h
  have hS : va_S A s.heap s.heap [] := va_S.rf
  have hl := lv_entry ([.ref h0]) (n := 1) (Nat.le_of_ble_eq_true rfl)
  rw [lg_entry_eq]
  generalize (lg_sl ([.ref h0]) ++ List.replicate (1 - (lg_sl ([.ref h0])).length) Slot.unset).toArray = ls at hl ⊢
  have hl : lv_has ls 1 [(0, .ref h0)] := hl
  refine lv_aload_n hx hb d_Det_init_0 rfl (lv_at hl 0 rfl) ?_
  refine W.objInit hx hb hown (hbw _ w_135) (hbw _ w_26) (hbw _ w_27) rfl (by rw [hml]; exact hl.1) rfl d_Det_init_1 (Nat.le_of_ble_eq_true rfl) (Nat.le_of_ble_eq_true rfl) ?_
  refine W.eq (g2 := F0 m 4 ls []) rfl ?_
  refine lv_aload_n hx hb d_Det_init_4 rfl (lv_at hl 0 rfl) ?_
  refine lv_bipush (v := 100) hx hb d_Det_init_5 (by decide) ?_
  refine va_newa (atype := .int) (ty := .int) (a0 := (100, .inl (fun _ => 0))) (N' := 100) hx hb (hbw _ w_49) rfl hK hP hD hS hA (fun _ => rfl) (by decide) (by decide) (by decide) (Nat.le_of_ble_eq_true rfl) (Nat.le_of_ble_eq_true rfl) d_Det_init_7 (fun q1 cA H hK1 hP hD hS => ?_)
  have eA : cI = cA := one_I hK hK1 0 2 rfl rfl
  subst eA
  have hP : va_P (dC, dI) clsA [(h0, .inr (1, [.null, .null, .null, .int 0])), (q1, .inl (cI, 100, .inl (fun _ => 0)))] H := hP
  have hD : va_D A [(h0, .inr (1, [.null, .null, .null, .int 0])), (q1, .inl (cI, 100, .inl (fun _ => 0)))] := hD
  refine va_putF (D := (dC, dI)) (ci := 1) (v := .ref q1) (ty := t_Det 0) (C := R_Det) (T := F_Det) (N := 4) hx hb hbw in_Det t_Det t_Det_ok n_Det hown hK hP hD hS 0 rfl rfl 0 (by decide) (hbw _ w_136) (fun _ h9 => h9) rfl hin rfl (by decide +kernel) rfl rfl (Nat.le_of_ble_eq_true rfl) d_Det_init_9 (fun H locs hP hD hS => ?_)
  have hP : va_P (dC, dI) clsA [(h0, .inr (1, [.ref q1, .null, .null, .int 0])), (q1, .inl (cI, 100, .inl (fun _ => 0)))] H := hP
  have hD : va_D A [(h0, .inr (1, [.ref q1, .null, .null, .int 0])), (q1, .inl (cI, 100, .inl (fun _ => 0)))] := hD
  refine lv_aload_n hx hb d_Det_init_12 rfl (lv_at hl 0 rfl) ?_
  refine lv_bipush (v := 100) hx hb d_Det_init_13 (by decide) ?_
  refine va_newa (atype := .int) (ty := .int) (a0 := (100, .inl (fun _ => 0))) (N' := 100) hx hb (hbw _ w_49) rfl hK hP hD hS hA (fun _ => rfl) (by decide) (by decide) (by decide) (Nat.le_of_ble_eq_true rfl) (Nat.le_of_ble_eq_true rfl) d_Det_init_15 (fun q2 cA H hK1 hP hD hS => ?_)
  have eA : cI = cA := one_I hK hK1 0 2 rfl rfl
  subst eA
  have hP : va_P (dC, dI) clsA [(h0, .inr (1, [.ref q1, .null, .null, .int 0])), (q1, .inl (cI, 100, .inl (fun _ => 0))), (q2, .inl (cI, 100, .inl (fun _ => 0)))] H := hP
  have hD : va_D A [(h0, .inr (1, [.ref q1, .null, .null, .int 0])), (q1, .inl (cI, 100, .inl (fun _ => 0))), (q2, .inl (cI, 100, .inl (fun _ => 0)))] := hD
  refine va_putF (D := (dC, dI)) (ci := 1) (v := .ref q2) (ty := t_Det 1) (C := R_Det) (T := F_Det) (N := 4) hx hb hbw in_Det t_Det t_Det_ok n_Det hown hK hP hD hS 0 rfl rfl 1 (by decide) (hbw _ w_137) (fun _ h9 => h9) rfl hin rfl (by decide +kernel) rfl rfl (Nat.le_of_ble_eq_true rfl) d_Det_init_17 (fun H locs hP hD hS => ?_)
  have hP : va_P (dC, dI) clsA [(h0, .inr (1, [.ref q1, .ref q2, .null, .int 0])), (q1, .inl (cI, 100, .inl (fun _ => 0))), (q2, .inl (cI, 100, .inl (fun _ => 0)))] H := hP
  have hD : va_D A [(h0, .inr (1, [.ref q1, .ref q2, .null, .int 0])), (q1, .inl (cI, 100, .inl (fun _ => 0))), (q2, .inl (cI, 100, .inl (fun _ => 0)))] := hD
  refine lv_aload_n hx hb d_Det_init_20 rfl (lv_at hl 0 rfl) ?_
  refine lv_bipush (v := 100) hx hb d_Det_init_21 (by decide) ?_
  refine va_newa (atype := .int) (ty := .int) (a0 := (100, .inl (fun _ => 0))) (N' := 100) hx hb (hbw _ w_49) rfl hK hP hD hS hA (fun _ => rfl) (by decide) (by decide) (by decide) (Nat.le_of_ble_eq_true rfl) (Nat.le_of_ble_eq_true rfl) d_Det_init_23 (fun q3 cA H hK1 hP hD hS => ?_)
  have eA : cI = cA := one_I hK hK1 0 2 rfl rfl
  subst eA
  have hP : va_P (dC, dI) clsA [(h0, .inr (1, [.ref q1, .ref q2, .null, .int 0])), (q1, .inl (cI, 100, .inl (fun _ => 0))), (q2, .inl (cI, 100, .inl (fun _ => 0))), (q3, .inl (cI, 100, .inl (fun _ => 0)))] H := hP
  have hD : va_D A [(h0, .inr (1, [.ref q1, .ref q2, .null, .int 0])), (q1, .inl (cI, 100, .inl (fun _ => 0))), (q2, .inl (cI, 100, .inl (fun _ => 0))), (q3, .inl (cI, 100, .inl (fun _ => 0)))] := hD
  refine va_putF (D := (dC, dI)) (ci := 1) (v := .ref q3) (ty := t_Det 2) (C := R_Det) (T := F_Det) (N := 4) hx hb hbw in_Det t_Det t_Det_ok n_Det hown hK hP hD hS 0 rfl rfl 2 (by decide) (hbw _ w_138) (fun _ h9 => h9) rfl hin rfl (by decide +kernel) rfl rfl (Nat.le_of_ble_eq_true rfl) d_Det_init_25 (fun H locs hP hD hS => ?_)
  have hP : va_P (dC, dI) clsA [(h0, .inr (1, [.ref q1, .ref q2, .ref q3, .int 0])), (q1, .inl (cI, 100, .inl (fun _ => 0))), (q2, .inl (cI, 100, .inl (fun _ => 0))), (q3, .inl (cI, 100, .inl (fun _ => 0)))] H := hP
  have hD : va_D A [(h0, .inr (1, [.ref q1, .ref q2, .ref q3, .int 0])), (q1, .inl (cI, 100, .inl (fun _ => 0))), (q2, .inl (cI, 100, .inl (fun _ => 0))), (q3, .inl (cI, 100, .inl (fun _ => 0)))] := hD
  refine W.widen (k := 3) (n := 300) (Nat.le_of_ble_eq_true rfl) (Nat.le_of_ble_eq_true rfl) ?_
  exact W.vret hx hb hr (fun t ht hW => ⟨⟨uf [q1, q2, q3], rfl, trivial, by rw [ht]; exact hP, hD⟩, hS.F ht⟩) hS.2.2 d_Det_init_28
def wi_Crowd (h0 : Nat) : va_W := [(h0, .inr (0, [.null, .null, .null, .null, .int 0]))]
def wf_Crowd (cI cZ : ClassId) (h0 : Nat) (u : Nat → Nat) : va_W := [(h0, .inr (0, [.ref (u 0), .ref (u 1), .ref (u 2), .ref (u 3), .int 0])), (u 0, .inl (cI, 60, .inl (fun _ => 0))), (u 1, .inl (cI, 60, .inl (fun _ => 0))), (u 2, .inl (cI, 60, .inl (fun _ => 0))), (u 3, .inl (cI, 60, .inl (fun _ => 0)))]
set_option maxHeartbeats 1000000 in
set_option maxRecDepth 100000 in
theorem i_Crowd (l : Launch) (dC : Nat → ClassId) (dI : Nat → Nat → Nat) (cI cZ : ClassId) (h0 sz : Nat) : Met l y_Crowd_init (Cond.code y_Crowd_init b_Crowd_init 1 none :: BW) { frames := 1, cells := 4, slots := 240, locals := 12 } (va_Pc [.ref h0] (fun U => U.heap.size = sz ∧ va_P (dC, dI) clsA (wi_Crowd h0) U.heap ∧ va_K (dC, dI) clsA [(cI, .int), (cZ, .boolean)] U ∧ va_D (fun _ => True) (wi_Crowd h0))) (va_Qv (fun _ : Nat → Nat => True) (fun u t => va_P (dC, dI) clsA (wf_Crowd cI cZ h0 u) t.heap ∧ va_D (va_A (wi_Crowd h0) sz) (wf_Crowd cI cZ h0 u)) (va_A (wi_Crowd h0) sz)) 4 240 (va_A (wi_Crowd h0) sz) := by
  refine Met.ofW (cc := b_Crowd_init) (maxL := 1) (ret := none) (by decide) rfl ?_
  intro p e s m args below meth c s₁ B hml hv
  obtain ⟨rfl, hsz, hP, hK, hD0⟩ := hv
  have hx := B.exec
  have hb := B.bytes
  have hr := B.returns
  have hts := atoms_spec (ws := Cond.code y_Crowd_init b_Crowd_init 1 none :: BW) B.pre
  have hbw : ∀ w ∈ BW, w.before ([.ref h0]).toArray s = true := fun w h => hts w (List.mem_cons_of_mem _ h)
  have hown : s.vm.findClass "PlanRows$Crowd" = some m.cls := findClass_of_methodNamed B.named
  have hlocks := B.notSynchronized
  have hin : meth.name = "<init>" := (name_of_methodNamed B.named B.method).1
  subst hsz
  have hD := hD0.self (sz := s.heap.size)
  generalize hAe : va_A (wi_Crowd h0) s.heap.size = A at hD ⊢
  have hA : ∀ q : Nat, s.heap.size ≤ q → A q := fun q h => by rw [← hAe]; exact Or.inr h
  have hS : va_S A s.heap s.heap [] := va_S.rf
  have hl := lv_entry ([.ref h0]) (n := 1) (Nat.le_of_ble_eq_true rfl)
  rw [lg_entry_eq]
  generalize (lg_sl ([.ref h0]) ++ List.replicate (1 - (lg_sl ([.ref h0])).length) Slot.unset).toArray = ls at hl ⊢
  have hl : lv_has ls 1 [(0, .ref h0)] := hl
  refine lv_aload_n hx hb d_Crowd_init_0 rfl (lv_at hl 0 rfl) ?_
  refine W.objInit hx hb hown (hbw _ w_155) (hbw _ w_26) (hbw _ w_27) rfl (by rw [hml]; exact hl.1) rfl d_Crowd_init_1 (Nat.le_of_ble_eq_true rfl) (Nat.le_of_ble_eq_true rfl) ?_
  refine W.eq (g2 := F0 m 4 ls []) rfl ?_
  refine lv_aload_n hx hb d_Crowd_init_4 rfl (lv_at hl 0 rfl) ?_
  refine lv_bipush (v := 60) hx hb d_Crowd_init_5 (by decide) ?_
  refine va_newa (atype := .int) (ty := .int) (a0 := (60, .inl (fun _ => 0))) (N' := 60) hx hb (hbw _ w_49) rfl hK hP hD hS hA (fun _ => rfl) (by decide) (by decide) (by decide) (Nat.le_of_ble_eq_true rfl) (Nat.le_of_ble_eq_true rfl) d_Crowd_init_7 (fun q1 cA H hK1 hP hD hS => ?_)
  have eA : cI = cA := one_I hK hK1 0 2 rfl rfl
  subst eA
  have hP : va_P (dC, dI) clsA [(h0, .inr (0, [.null, .null, .null, .null, .int 0])), (q1, .inl (cI, 60, .inl (fun _ => 0)))] H := hP
  have hD : va_D A [(h0, .inr (0, [.null, .null, .null, .null, .int 0])), (q1, .inl (cI, 60, .inl (fun _ => 0)))] := hD
  refine va_putF (D := (dC, dI)) (ci := 0) (v := .ref q1) (ty := t_Crowd 0) (C := R_Crowd) (T := F_Crowd) (N := 5) hx hb hbw in_Crowd t_Crowd t_Crowd_ok n_Crowd hown hK hP hD hS 0 rfl rfl 0 (by decide) (hbw _ w_156) (fun _ h9 => h9) rfl hin rfl (by decide +kernel) rfl rfl (Nat.le_of_ble_eq_true rfl) d_Crowd_init_9 (fun H locs hP hD hS => ?_)
  have hP : va_P (dC, dI) clsA [(h0, .inr (0, [.ref q1, .null, .null, .null, .int 0])), (q1, .inl (cI, 60, .inl (fun _ => 0)))] H := hP
  have hD : va_D A [(h0, .inr (0, [.ref q1, .null, .null, .null, .int 0])), (q1, .inl (cI, 60, .inl (fun _ => 0)))] := hD
  refine lv_aload_n hx hb d_Crowd_init_12 rfl (lv_at hl 0 rfl) ?_
  refine lv_bipush (v := 60) hx hb d_Crowd_init_13 (by decide) ?_
  refine va_newa (atype := .int) (ty := .int) (a0 := (60, .inl (fun _ => 0))) (N' := 60) hx hb (hbw _ w_49) rfl hK hP hD hS hA (fun _ => rfl) (by decide) (by decide) (by decide) (Nat.le_of_ble_eq_true rfl) (Nat.le_of_ble_eq_true rfl) d_Crowd_init_15 (fun q2 cA H hK1 hP hD hS => ?_)
  have eA : cI = cA := one_I hK hK1 0 2 rfl rfl
  subst eA
  have hP : va_P (dC, dI) clsA [(h0, .inr (0, [.ref q1, .null, .null, .null, .int 0])), (q1, .inl (cI, 60, .inl (fun _ => 0))), (q2, .inl (cI, 60, .inl (fun _ => 0)))] H := hP
  have hD : va_D A [(h0, .inr (0, [.ref q1, .null, .null, .null, .int 0])), (q1, .inl (cI, 60, .inl (fun _ => 0))), (q2, .inl (cI, 60, .inl (fun _ => 0)))] := hD
  refine va_putF (D := (dC, dI)) (ci := 0) (v := .ref q2) (ty := t_Crowd 1) (C := R_Crowd) (T := F_Crowd) (N := 5) hx hb hbw in_Crowd t_Crowd t_Crowd_ok n_Crowd hown hK hP hD hS 0 rfl rfl 1 (by decide) (hbw _ w_157) (fun _ h9 => h9) rfl hin rfl (by decide +kernel) rfl rfl (Nat.le_of_ble_eq_true rfl) d_Crowd_init_17 (fun H locs hP hD hS => ?_)
  have hP : va_P (dC, dI) clsA [(h0, .inr (0, [.ref q1, .ref q2, .null, .null, .int 0])), (q1, .inl (cI, 60, .inl (fun _ => 0))), (q2, .inl (cI, 60, .inl (fun _ => 0)))] H := hP
  have hD : va_D A [(h0, .inr (0, [.ref q1, .ref q2, .null, .null, .int 0])), (q1, .inl (cI, 60, .inl (fun _ => 0))), (q2, .inl (cI, 60, .inl (fun _ => 0)))] := hD
  refine lv_aload_n hx hb d_Crowd_init_20 rfl (lv_at hl 0 rfl) ?_
  refine lv_bipush (v := 60) hx hb d_Crowd_init_21 (by decide) ?_
  refine va_newa (atype := .int) (ty := .int) (a0 := (60, .inl (fun _ => 0))) (N' := 60) hx hb (hbw _ w_49) rfl hK hP hD hS hA (fun _ => rfl) (by decide) (by decide) (by decide) (Nat.le_of_ble_eq_true rfl) (Nat.le_of_ble_eq_true rfl) d_Crowd_init_23 (fun q3 cA H hK1 hP hD hS => ?_)
  have eA : cI = cA := one_I hK hK1 0 2 rfl rfl
  subst eA
  have hP : va_P (dC, dI) clsA [(h0, .inr (0, [.ref q1, .ref q2, .null, .null, .int 0])), (q1, .inl (cI, 60, .inl (fun _ => 0))), (q2, .inl (cI, 60, .inl (fun _ => 0))), (q3, .inl (cI, 60, .inl (fun _ => 0)))] H := hP
  have hD : va_D A [(h0, .inr (0, [.ref q1, .ref q2, .null, .null, .int 0])), (q1, .inl (cI, 60, .inl (fun _ => 0))), (q2, .inl (cI, 60, .inl (fun _ => 0))), (q3, .inl (cI, 60, .inl (fun _ => 0)))] := hD
  refine va_putF (D := (dC, dI)) (ci := 0) (v := .ref q3) (ty := t_Crowd 2) (C := R_Crowd) (T := F_Crowd) (N := 5) hx hb hbw in_Crowd t_Crowd t_Crowd_ok n_Crowd hown hK hP hD hS 0 rfl rfl 2 (by decide) (hbw _ w_158) (fun _ h9 => h9) rfl hin rfl (by decide +kernel) rfl rfl (Nat.le_of_ble_eq_true rfl) d_Crowd_init_25 (fun H locs hP hD hS => ?_)
  have hP : va_P (dC, dI) clsA [(h0, .inr (0, [.ref q1, .ref q2, .ref q3, .null, .int 0])), (q1, .inl (cI, 60, .inl (fun _ => 0))), (q2, .inl (cI, 60, .inl (fun _ => 0))), (q3, .inl (cI, 60, .inl (fun _ => 0)))] H := hP
  have hD : va_D A [(h0, .inr (0, [.ref q1, .ref q2, .ref q3, .null, .int 0])), (q1, .inl (cI, 60, .inl (fun _ => 0))), (q2, .inl (cI, 60, .inl (fun _ => 0))), (q3, .inl (cI, 60, .inl (fun _ => 0)))] := hD
  refine lv_aload_n hx hb d_Crowd_init_28 rfl (lv_at hl 0 rfl) ?_
  refine lv_bipush (v := 60) hx hb d_Crowd_init_29 (by decide) ?_
  refine va_newa (atype := .int) (ty := .int) (a0 := (60, .inl (fun _ => 0))) (N' := 60) hx hb (hbw _ w_49) rfl hK hP hD hS hA (fun _ => rfl) (by decide) (by decide) (by decide) (Nat.le_of_ble_eq_true rfl) (Nat.le_of_ble_eq_true rfl) d_Crowd_init_31 (fun q4 cA H hK1 hP hD hS => ?_)
  have eA : cI = cA := one_I hK hK1 0 2 rfl rfl
  subst eA
  have hP : va_P (dC, dI) clsA [(h0, .inr (0, [.ref q1, .ref q2, .ref q3, .null, .int 0])), (q1, .inl (cI, 60, .inl (fun _ => 0))), (q2, .inl (cI, 60, .inl (fun _ => 0))), (q3, .inl (cI, 60, .inl (fun _ => 0))), (q4, .inl (cI, 60, .inl (fun _ => 0)))] H := hP
  have hD : va_D A [(h0, .inr (0, [.ref q1, .ref q2, .ref q3, .null, .int 0])), (q1, .inl (cI, 60, .inl (fun _ => 0))), (q2, .inl (cI, 60, .inl (fun _ => 0))), (q3, .inl (cI, 60, .inl (fun _ => 0))), (q4, .inl (cI, 60, .inl (fun _ => 0)))] := hD
  refine va_putF (D := (dC, dI)) (ci := 0) (v := .ref q4) (ty := t_Crowd 3) (C := R_Crowd) (T := F_Crowd) (N := 5) hx hb hbw in_Crowd t_Crowd t_Crowd_ok n_Crowd hown hK hP hD hS 0 rfl rfl 3 (by decide) (hbw _ w_159) (fun _ h9 => h9) rfl hin rfl (by decide +kernel) rfl rfl (Nat.le_of_ble_eq_true rfl) d_Crowd_init_33 (fun H locs hP hD hS => ?_)
  have hP : va_P (dC, dI) clsA [(h0, .inr (0, [.ref q1, .ref q2, .ref q3, .ref q4, .int 0])), (q1, .inl (cI, 60, .inl (fun _ => 0))), (q2, .inl (cI, 60, .inl (fun _ => 0))), (q3, .inl (cI, 60, .inl (fun _ => 0))), (q4, .inl (cI, 60, .inl (fun _ => 0)))] H := hP
  have hD : va_D A [(h0, .inr (0, [.ref q1, .ref q2, .ref q3, .ref q4, .int 0])), (q1, .inl (cI, 60, .inl (fun _ => 0))), (q2, .inl (cI, 60, .inl (fun _ => 0))), (q3, .inl (cI, 60, .inl (fun _ => 0))), (q4, .inl (cI, 60, .inl (fun _ => 0)))] := hD
  refine W.widen (k := 4) (n := 240) (Nat.le_of_ble_eq_true rfl) (Nat.le_of_ble_eq_true rfl) ?_
  exact W.vret hx hb hr (fun t ht hW => ⟨⟨uf [q1, q2, q3, q4], rfl, trivial, by rw [ht]; exact hP, hD⟩, hS.F ht⟩) hS.2.2 d_Crowd_init_36
def wi_Win (h0 : Nat) : va_W := [(h0, .inr (7, [.null, .null, .null, .int 0]))]
def wf_Win (cI cZ : ClassId) (h0 : Nat) (u : Nat → Nat) : va_W := [(h0, .inr (7, [.ref (u 0), .ref (u 1), .ref (u 2), .int 0])), (u 0, .inl (cI, 30, .inl (fun _ => 0))), (u 1, .inl (cI, 30, .inl (fun _ => 0))), (u 2, .inl (cI, 30, .inl (fun _ => 0)))]
set_option maxHeartbeats 1000000 in
set_option maxRecDepth 100000 in
theorem i_Win (l : Launch) (dC : Nat → ClassId) (dI : Nat → Nat → Nat) (cI cZ : ClassId) (h0 sz : Nat) : Met l y_Win_init (Cond.code y_Win_init b_Win_init 1 none :: BW) { frames := 1, cells := 3, slots := 90, locals := 12 } (va_Pc [.ref h0] (fun U => U.heap.size = sz ∧ va_P (dC, dI) clsA (wi_Win h0) U.heap ∧ va_K (dC, dI) clsA [(cI, .int), (cZ, .boolean)] U ∧ va_D (fun _ => True) (wi_Win h0))) (va_Qv (fun _ : Nat → Nat => True) (fun u t => va_P (dC, dI) clsA (wf_Win cI cZ h0 u) t.heap ∧ va_D (va_A (wi_Win h0) sz) (wf_Win cI cZ h0 u)) (va_A (wi_Win h0) sz)) 3 90 (va_A (wi_Win h0) sz) := by
  refine Met.ofW (cc := b_Win_init) (maxL := 1) (ret := none) (by decide) rfl ?_
  intro p e s m args below meth c s₁ B hml hv
  obtain ⟨rfl, hsz, hP, hK, hD0⟩ := hv
  have hx := B.exec
  have hb := B.bytes
  have hr := B.returns
  have hts := atoms_spec (ws := Cond.code y_Win_init b_Win_init 1 none :: BW) B.pre
  have hbw : ∀ w ∈ BW, w.before ([.ref h0]).toArray s = true := fun w h => hts w (List.mem_cons_of_mem _ h)
  have hown : s.vm.findClass "PlanRows$Windows" = some m.cls := findClass_of_methodNamed B.named
  have hlocks := B.notSynchronized
  have hin : meth.name = "<init>" := (name_of_methodNamed B.named B.method).1
  subst hsz
  have hD := hD0.self (sz := s.heap.size)
  generalize hAe : va_A (wi_Win h0) s.heap.size = A at hD ⊢
  have hA : ∀ q : Nat, s.heap.size ≤ q → A q := fun q h => by rw [← hAe]; exact Or.inr h
  have hS : va_S A s.heap s.heap [] := va_S.rf
  have hl := lv_entry ([.ref h0]) (n := 1) (Nat.le_of_ble_eq_true rfl)
  rw [lg_entry_eq]
  generalize (lg_sl ([.ref h0]) ++ List.replicate (1 - (lg_sl ([.ref h0])).length) Slot.unset).toArray = ls at hl ⊢
  have hl : lv_has ls 1 [(0, .ref h0)] := hl
  refine lv_aload_n hx hb d_Win_init_0 rfl (lv_at hl 0 rfl) ?_
  refine W.objInit hx hb hown (hbw _ w_177) (hbw _ w_26) (hbw _ w_27) rfl (by rw [hml]; exact hl.1) rfl d_Win_init_1 (Nat.le_of_ble_eq_true rfl) (Nat.le_of_ble_eq_true rfl) ?_
  refine W.eq (g2 := F0 m 4 ls []) rfl ?_
  refine lv_aload_n hx hb d_Win_init_4 rfl (lv_at hl 0 rfl) ?_
  refine lv_bipush (v := 30) hx hb d_Win_init_5 (by decide) ?_
  refine va_newa (atype := .int) (ty := .int) (a0 := (30, .inl (fun _ => 0))) (N' := 30) hx hb (hbw _ w_49) rfl hK hP hD hS hA (fun _ => rfl) (by decide) (by decide) (by decide) (Nat.le_of_ble_eq_true rfl) (Nat.le_of_ble_eq_true rfl) d_Win_init_7 (fun q1 cA H hK1 hP hD hS => ?_)
  have eA : cI = cA := one_I hK hK1 0 2 rfl rfl
  subst eA
  have hP : va_P (dC, dI) clsA [(h0, .inr (7, [.null, .null, .null, .int 0])), (q1, .inl (cI, 30, .inl (fun _ => 0)))] H := hP
  have hD : va_D A [(h0, .inr (7, [.null, .null, .null, .int 0])), (q1, .inl (cI, 30, .inl (fun _ => 0)))] := hD
  refine va_putF (D := (dC, dI)) (ci := 7) (v := .ref q1) (ty := t_Win 0) (C := R_Win) (T := F_Win) (N := 4) hx hb hbw in_Win t_Win t_Win_ok n_Win hown hK hP hD hS 0 rfl rfl 0 (by decide) (hbw _ w_178) (fun _ h9 => h9) rfl hin rfl (by decide +kernel) rfl rfl (Nat.le_of_ble_eq_true rfl) d_Win_init_9 (fun H locs hP hD hS => ?_)
  have hP : va_P (dC, dI) clsA [(h0, .inr (7, [.ref q1, .null, .null, .int 0])), (q1, .inl (cI, 30, .inl (fun _ => 0)))] H := hP
  have hD : va_D A [(h0, .inr (7, [.ref q1, .null, .null, .int 0])), (q1, .inl (cI, 30, .inl (fun _ => 0)))] := hD
  refine lv_aload_n hx hb d_Win_init_12 rfl (lv_at hl 0 rfl) ?_
  refine lv_bipush (v := 30) hx hb d_Win_init_13 (by decide) ?_
  refine va_newa (atype := .int) (ty := .int) (a0 := (30, .inl (fun _ => 0))) (N' := 30) hx hb (hbw _ w_49) rfl hK hP hD hS hA (fun _ => rfl) (by decide) (by decide) (by decide) (Nat.le_of_ble_eq_true rfl) (Nat.le_of_ble_eq_true rfl) d_Win_init_15 (fun q2 cA H hK1 hP hD hS => ?_)
  have eA : cI = cA := one_I hK hK1 0 2 rfl rfl
  subst eA
  have hP : va_P (dC, dI) clsA [(h0, .inr (7, [.ref q1, .null, .null, .int 0])), (q1, .inl (cI, 30, .inl (fun _ => 0))), (q2, .inl (cI, 30, .inl (fun _ => 0)))] H := hP
  have hD : va_D A [(h0, .inr (7, [.ref q1, .null, .null, .int 0])), (q1, .inl (cI, 30, .inl (fun _ => 0))), (q2, .inl (cI, 30, .inl (fun _ => 0)))] := hD
  refine va_putF (D := (dC, dI)) (ci := 7) (v := .ref q2) (ty := t_Win 1) (C := R_Win) (T := F_Win) (N := 4) hx hb hbw in_Win t_Win t_Win_ok n_Win hown hK hP hD hS 0 rfl rfl 1 (by decide) (hbw _ w_179) (fun _ h9 => h9) rfl hin rfl (by decide +kernel) rfl rfl (Nat.le_of_ble_eq_true rfl) d_Win_init_17 (fun H locs hP hD hS => ?_)
  have hP : va_P (dC, dI) clsA [(h0, .inr (7, [.ref q1, .ref q2, .null, .int 0])), (q1, .inl (cI, 30, .inl (fun _ => 0))), (q2, .inl (cI, 30, .inl (fun _ => 0)))] H := hP
  have hD : va_D A [(h0, .inr (7, [.ref q1, .ref q2, .null, .int 0])), (q1, .inl (cI, 30, .inl (fun _ => 0))), (q2, .inl (cI, 30, .inl (fun _ => 0)))] := hD
  refine lv_aload_n hx hb d_Win_init_20 rfl (lv_at hl 0 rfl) ?_
  refine lv_bipush (v := 30) hx hb d_Win_init_21 (by decide) ?_
  refine va_newa (atype := .int) (ty := .int) (a0 := (30, .inl (fun _ => 0))) (N' := 30) hx hb (hbw _ w_49) rfl hK hP hD hS hA (fun _ => rfl) (by decide) (by decide) (by decide) (Nat.le_of_ble_eq_true rfl) (Nat.le_of_ble_eq_true rfl) d_Win_init_23 (fun q3 cA H hK1 hP hD hS => ?_)
  have eA : cI = cA := one_I hK hK1 0 2 rfl rfl
  subst eA
  have hP : va_P (dC, dI) clsA [(h0, .inr (7, [.ref q1, .ref q2, .null, .int 0])), (q1, .inl (cI, 30, .inl (fun _ => 0))), (q2, .inl (cI, 30, .inl (fun _ => 0))), (q3, .inl (cI, 30, .inl (fun _ => 0)))] H := hP
  have hD : va_D A [(h0, .inr (7, [.ref q1, .ref q2, .null, .int 0])), (q1, .inl (cI, 30, .inl (fun _ => 0))), (q2, .inl (cI, 30, .inl (fun _ => 0))), (q3, .inl (cI, 30, .inl (fun _ => 0)))] := hD
  refine va_putF (D := (dC, dI)) (ci := 7) (v := .ref q3) (ty := t_Win 2) (C := R_Win) (T := F_Win) (N := 4) hx hb hbw in_Win t_Win t_Win_ok n_Win hown hK hP hD hS 0 rfl rfl 2 (by decide) (hbw _ w_180) (fun _ h9 => h9) rfl hin rfl (by decide +kernel) rfl rfl (Nat.le_of_ble_eq_true rfl) d_Win_init_25 (fun H locs hP hD hS => ?_)
  have hP : va_P (dC, dI) clsA [(h0, .inr (7, [.ref q1, .ref q2, .ref q3, .int 0])), (q1, .inl (cI, 30, .inl (fun _ => 0))), (q2, .inl (cI, 30, .inl (fun _ => 0))), (q3, .inl (cI, 30, .inl (fun _ => 0)))] H := hP
  have hD : va_D A [(h0, .inr (7, [.ref q1, .ref q2, .ref q3, .int 0])), (q1, .inl (cI, 30, .inl (fun _ => 0))), (q2, .inl (cI, 30, .inl (fun _ => 0))), (q3, .inl (cI, 30, .inl (fun _ => 0)))] := hD
  refine W.widen (k := 3) (n := 90) (Nat.le_of_ble_eq_true rfl) (Nat.le_of_ble_eq_true rfl) ?_
  exact W.vret hx hb hr (fun t ht hW => ⟨⟨uf [q1, q2, q3], rfl, trivial, by rw [ht]; exact hP, hD⟩, hS.F ht⟩) hS.2.2 d_Win_init_28
def wi_Search (h0 : Nat) : va_W := [(h0, .inr (6, [.null, .null, .null, .null]))]
def wf_Search (cI cZ : ClassId) (h0 b1 b2 b3 : Nat) (u : Nat → Nat) : va_W := [(h0, .inr (6, [.ref b1, .ref b2, .ref b3, .ref (u 0)])), (u 0, .inl (cI, 40, .inl (fun _ => 0)))]
set_option maxHeartbeats 1000000 in
set_option maxRecDepth 100000 in
theorem i_Search (l : Launch) (dC : Nat → ClassId) (dI : Nat → Nat → Nat) (cI cZ : ClassId) (h0 b1 b2 b3 sz : Nat) : Met l y_Search_init (Cond.code y_Search_init b_Search_init 4 none :: BW) { frames := 1, cells := 1, slots := 40, locals := 12 } (va_Pc [.ref h0, .ref b1, .ref b2, .ref b3] (fun U => U.heap.size = sz ∧ va_P (dC, dI) clsA (wi_Search h0) U.heap ∧ va_K (dC, dI) clsA [(cI, .int), (cZ, .boolean)] U ∧ va_D (fun _ => True) (wi_Search h0))) (va_Qv (fun _ : Nat → Nat => True) (fun u t => va_P (dC, dI) clsA (wf_Search cI cZ h0 b1 b2 b3 u) t.heap ∧ va_D (va_A (wi_Search h0) sz) (wf_Search cI cZ h0 b1 b2 b3 u)) (va_A (wi_Search h0) sz)) 1 40 (va_A (wi_Search h0) sz) := by
  refine Met.ofW (cc := b_Search_init) (maxL := 4) (ret := none) (by decide) rfl ?_
  intro p e s m args below meth c s₁ B hml hv
  obtain ⟨rfl, hsz, hP, hK, hD0⟩ := hv
  have hx := B.exec
  have hb := B.bytes
  have hr := B.returns
  have hts := atoms_spec (ws := Cond.code y_Search_init b_Search_init 4 none :: BW) B.pre
  have hbw : ∀ w ∈ BW, w.before ([.ref h0, .ref b1, .ref b2, .ref b3]).toArray s = true := fun w h => hts w (List.mem_cons_of_mem _ h)
  have hown : s.vm.findClass "PlanRows$Search" = some m.cls := findClass_of_methodNamed B.named
  have hlocks := B.notSynchronized
  have hin : meth.name = "<init>" := (name_of_methodNamed B.named B.method).1
  subst hsz
  have hD := hD0.self (sz := s.heap.size)
  generalize hAe : va_A (wi_Search h0) s.heap.size = A at hD ⊢
  have hA : ∀ q : Nat, s.heap.size ≤ q → A q := fun q h => by rw [← hAe]; exact Or.inr h
  have hS : va_S A s.heap s.heap [] := va_S.rf
  have hl := lv_entry ([.ref h0, .ref b1, .ref b2, .ref b3]) (n := 4) (Nat.le_of_ble_eq_true rfl)
  rw [lg_entry_eq]
  generalize (lg_sl ([.ref h0, .ref b1, .ref b2, .ref b3]) ++ List.replicate (4 - (lg_sl ([.ref h0, .ref b1, .ref b2, .ref b3])).length) Slot.unset).toArray = ls at hl ⊢
  have hl : lv_has ls 4 [(0, .ref h0), (1, .ref b1), (2, .ref b2), (3, .ref b3)] := hl
  refine lv_aload_n hx hb d_Search_init_0 rfl (lv_at hl 0 rfl) ?_
  refine W.objInit hx hb hown (hbw _ w_94) (hbw _ w_26) (hbw _ w_27) rfl (by rw [hml]; exact hl.1) rfl d_Search_init_1 (Nat.le_of_ble_eq_true rfl) (Nat.le_of_ble_eq_true rfl) ?_
  refine W.eq (g2 := F0 m 4 ls []) rfl ?_
  refine lv_aload_n hx hb d_Search_init_4 rfl (lv_at hl 0 rfl) ?_
  refine lv_bipush (v := 40) hx hb d_Search_init_5 (by decide) ?_
  refine va_newa (atype := .int) (ty := .int) (a0 := (40, .inl (fun _ => 0))) (N' := 40) hx hb (hbw _ w_49) rfl hK hP hD hS hA (fun _ => rfl) (by decide) (by decide) (by decide) (Nat.le_of_ble_eq_true rfl) (Nat.le_of_ble_eq_true rfl) d_Search_init_7 (fun q1 cA H hK1 hP hD hS => ?_)
  have eA : cI = cA := one_I hK hK1 0 2 rfl rfl
  subst eA
  have hP : va_P (dC, dI) clsA [(h0, .inr (6, [.null, .null, .null, .null])), (q1, .inl (cI, 40, .inl (fun _ => 0)))] H := hP
  have hD : va_D A [(h0, .inr (6, [.null, .null, .null, .null])), (q1, .inl (cI, 40, .inl (fun _ => 0)))] := hD
  refine va_putF (D := (dC, dI)) (ci := 6) (v := .ref q1) (ty := t_Search 3) (C := R_Search) (T := F_Search) (N := 4) hx hb hbw in_Search t_Search t_Search_ok n_Search hown hK hP hD hS 0 rfl rfl 3 (by decide) (hbw _ w_98) (fun _ h9 => h9) rfl hin rfl (by decide +kernel) rfl rfl (Nat.le_of_ble_eq_true rfl) d_Search_init_9 (fun H locs hP hD hS => ?_)
  have hP : va_P (dC, dI) clsA [(h0, .inr (6, [.null, .null, .null, .ref q1])), (q1, .inl (cI, 40, .inl (fun _ => 0)))] H := hP
  have hD : va_D A [(h0, .inr (6, [.null, .null, .null, .ref q1])), (q1, .inl (cI, 40, .inl (fun _ => 0)))] := hD
  refine lv_aload_n hx hb d_Search_init_12 rfl (lv_at hl 0 rfl) ?_
  refine lv_aload_n hx hb d_Search_init_13 rfl (lv_at hl 1 rfl) ?_
  refine va_putF (D := (dC, dI)) (ci := 6) (v := .ref b1) (ty := t_Search 0) (C := R_Search) (T := F_Search) (N := 4) hx hb hbw in_Search t_Search t_Search_ok n_Search hown hK hP hD hS 0 rfl rfl 0 (by decide) (hbw _ w_95) (fun _ h9 => h9) rfl hin rfl (by decide +kernel) rfl rfl (Nat.le_of_ble_eq_true rfl) d_Search_init_14 (fun H locs hP hD hS => ?_)
  have hP : va_P (dC, dI) clsA [(h0, .inr (6, [.ref b1, .null, .null, .ref q1])), (q1, .inl (cI, 40, .inl (fun _ => 0)))] H := hP
  have hD : va_D A [(h0, .inr (6, [.ref b1, .null, .null, .ref q1])), (q1, .inl (cI, 40, .inl (fun _ => 0)))] := hD
  refine lv_aload_n hx hb d_Search_init_17 rfl (lv_at hl 0 rfl) ?_
  refine lv_aload_n hx hb d_Search_init_18 rfl (lv_at hl 2 rfl) ?_
  refine va_putF (D := (dC, dI)) (ci := 6) (v := .ref b2) (ty := t_Search 1) (C := R_Search) (T := F_Search) (N := 4) hx hb hbw in_Search t_Search t_Search_ok n_Search hown hK hP hD hS 0 rfl rfl 1 (by decide) (hbw _ w_96) (fun _ h9 => h9) rfl hin rfl (by decide +kernel) rfl rfl (Nat.le_of_ble_eq_true rfl) d_Search_init_19 (fun H locs hP hD hS => ?_)
  have hP : va_P (dC, dI) clsA [(h0, .inr (6, [.ref b1, .ref b2, .null, .ref q1])), (q1, .inl (cI, 40, .inl (fun _ => 0)))] H := hP
  have hD : va_D A [(h0, .inr (6, [.ref b1, .ref b2, .null, .ref q1])), (q1, .inl (cI, 40, .inl (fun _ => 0)))] := hD
  refine lv_aload_n hx hb d_Search_init_22 rfl (lv_at hl 0 rfl) ?_
  refine lv_aload_n hx hb d_Search_init_23 rfl (lv_at hl 3 rfl) ?_
  refine va_putF (D := (dC, dI)) (ci := 6) (v := .ref b3) (ty := t_Search 2) (C := R_Search) (T := F_Search) (N := 4) hx hb hbw in_Search t_Search t_Search_ok n_Search hown hK hP hD hS 0 rfl rfl 2 (by decide) (hbw _ w_97) (fun _ h9 => h9) rfl hin rfl (by decide +kernel) rfl rfl (Nat.le_of_ble_eq_true rfl) d_Search_init_24 (fun H locs hP hD hS => ?_)
  have hP : va_P (dC, dI) clsA [(h0, .inr (6, [.ref b1, .ref b2, .ref b3, .ref q1])), (q1, .inl (cI, 40, .inl (fun _ => 0)))] H := hP
  have hD : va_D A [(h0, .inr (6, [.ref b1, .ref b2, .ref b3, .ref q1])), (q1, .inl (cI, 40, .inl (fun _ => 0)))] := hD
  refine W.widen (k := 1) (n := 40) (Nat.le_of_ble_eq_true rfl) (Nat.le_of_ble_eq_true rfl) ?_
  exact W.vret hx hb hr (fun t ht hW => ⟨⟨uf [q1], rfl, trivial, by rw [ht]; exact hP, hD⟩, hS.F ht⟩) hS.2.2 d_Search_init_27
