/-! THE CLAIM OUT OF ONE WALK OF THE LAW'S BODY. Your part is whole_start (and what it stands on); all else here is the same for every law, but numbers. -/
def R_law : String := "PlanRowsLaw"
def lw_P (b : Addr) (xs : List Int32) (args : Array Value) (s : State) : Prop := args = #[.ref b] ∧ s.IntsAt b xs ∧ xs.length ≤ 3072 ∧ (Jvm.Cond.and given_1 narrow_1).before args s = true
def lw_Q (_ : Array Value) (s : State) (o : Outcome) (t : State) : Prop := o = .returned (some (.int 1)) ∧ Framed s o t [] 1088 10706
def lw_Z (below : List Frame) (a : Array Value) (s : State) : State → Prop := fun t => ∃ o, t.status = .running ∧ Ended t below o ∧ lw_Q a s o t
/-- the law's own end, with 1 on the stack, nothing written that was there before, its room as the claim has it -/
theorem lw_ret {p : Program} {l : Launch} {e : Env} {s : State} {m : MethodId} {below : List Frame} {meth : Method} {c : Code} {b : Nat} (hx : p.tables.exec = Jvm.exec) (hb : c.code = code) (hr : meth.sig.returnType = ret) (hlocks : meth.locks = false) {pc : Nat} {H : Heap} {ls : Array Slot} (hdg : decode code pc = .ok (.ireturn, 1)) : W p l e room_1 s m #[Value.ref b] below meth c H [] 1088 10706 (lw_Z below #[Value.ref b] s) (F0 m pc ls [.int 1]) := by
  intro T hT X
  obtain ⟨fs, hret, hrun, hended, hW, hframe⟩ := X.leave (v := some (.int 1)) (hlocks := hlocks) (fun h => by rw [hr] at h; cases h)
  have hmeth' : T.vm.method? m = some meth := X.method'
  refine ⟨T.setFrames fs, ?_, .returned (some (.int 1)), hrun, hended, rfl, ⟨_, rfl⟩, hW, hframe⟩
  jvm_step X.here [X.here.top, hx, hb, hdg, hmeth', hr, ret, narrow_b1]
  (try refine ⟨rfl, ?_⟩); (try refine ⟨rfl, ?_⟩)
  first | (intro acts; rw [hret _ acts rfl rfl rfl]) | rw [hret _ _ rfl rfl rfl]
  exact Steps.refl _
/-- what holds at the law's entry: the machine, the code, the tables' words (any of lw_tbl by 'hts w (by decide +kernel)'), the script of L ints xs at the cell b, what the Statement gives of the start (any of its parts by flat_of_before) -/
def lw_At (p : Program) (s : State) (m : MethodId) (meth : Method) (c : Code) (b L : Nat) (xs : Nat → Int32) : Prop :=
  p.tables.exec = Jvm.exec ∧ c.code = code ∧ meth.sig.returnType = ret ∧ c.maxLocals = 7 ∧ s.vm.findClass R_law = some m.cls ∧ (∀ w ∈ lw_tbl, w.before #[Value.ref b] s = true) ∧ va_X b L xs s s.heap ∧ b < s.heap.size ∧ meth.locks = false ∧ (Jvm.Cond.and given_1 narrow_1).before #[Value.ref b] s = true
theorem lw_ofL {L : Nat} (h : L ≤ 3072) : (Int32.ofNat L - 6).toInt = L - 6 := by
  rw [Int32.toInt_sub, ofNat_toInt (by omega), show (6 : Int32).toInt = 6 from rfl]
  exact Int.bmod_eq_of_le (by omega) (by omega)
theorem lw_20 {v : Int} (h : ¬ (v < 0 ∨ 19 < v)) : v = 0 ∨ v = 1 ∨ v = 2 ∨ v = 3 ∨ v = 4 ∨ v = 5 ∨ v = 6 ∨ v = 7 ∨ v = 8 ∨ v = 9 ∨ v = 10 ∨ v = 11 ∨ v = 12 ∨ v = 13 ∨ v = 14 ∨ v = 15 ∨ v = 16 ∨ v = 17 ∨ v = 18 ∨ v = 19 := by omega
set_option maxHeartbeats 2000000 in
set_option maxRecDepth 100000 in
theorem lw_loop {p : Program} {e : Env} {s : State} {m : MethodId} {below : List Frame} {meth : Method} {c : Code} {l : Launch} {b L : Nat} {xs : Nat → Int32} {dC : Nat → ClassId} {dI : Nat → Nat → Nat} {cI cZ cL : ClassId} {ad am : Nat → Nat} (hF : LF p s m meth c b L xs l dC dI cI cZ cL ad am) : ∀ (n t : Nat) (i : Int32) (H : Heap) (locs : List Loc) (x : ST) (z : RT) (fo : Nat → Int64) (ls : Array Slot) (cells slots : Nat), i.toInt = 6 * t → t ≤ 512 → 512 - t < n → cells + (512 - t) ≤ 1088 → slots + 6 * (512 - t) ≤ 10706 → LI s dC dI cI cZ cL ad am H locs x z fo → lv_has ls 7 [(4, .int i), (0, .ref b), (1, .ref (ad 0)), (2, .ref (am 0)), (3, .ref (ad 29))] → W p l e room_1 s m #[Value.ref b] below meth c H locs cells slots (lw_Z below #[Value.ref b] s) (F0 m 23 ls []) := by
  intro n
  induction n with
  | zero => intro t i H locs x z fo ls cells slots h1 h2 h3; omega
  | succ n ih =>
    intro t i H locs x z fo ls cells slots ht h512 hn hcel hslo hI hl
    have hF0 := hF
    obtain ⟨htr, hx, hb, hret, hml, hown, hts, hX, hbl, hlocks, hLm, hE, hK, hN, hj, hjM, hdis, h30, h21⟩ := hF
    have hI0 := hI
    obtain ⟨hPC, hPR, hS, hR⟩ := hI
    have hbA : ¬ s.heap.size ≤ b := Nat.not_le.mpr hbl
    refine lv_iload hx hb d_Law_law_23 (lv_at hl 0 rfl) ?_
    refine lv_aload_n hx hb d_Law_law_25 rfl (lv_at hl 1 rfl) ?_
    refine va_slen hx hb hX hbl hbA hS d_Law_law_26 ?_
    refine lv_bipush (v := 6) hx hb d_Law_law_27 (by decide) ?_
    refine lv_isub hx hb d_Law_law_29 ?_
    refine lv_icmp_gt (tgt := 1536) hx hb d_Law_law_30 (by decide) (fun c1 => ?_) (fun c1 => ?_)
    · refine va_forget hS.2.2 ?_
      refine W.widen (k := 1088) (n := 10706) (by omega) (by omega) ?_
      refine lv_iconst (v := 1) hx hb d_Law_law_1536 (by decide) ?_
      exact lw_ret hx hb hret hlocks d_Law_law_1537
    have hi : 0 ≤ i.toInt ∧ i.toInt + 6 ≤ L := by
      rw [Int32.lt_iff_toInt_lt, lw_ofL hLm] at c1
      omega
    have next : ∀ (H : Heap) (locs : List Loc) (x : ST) (z : RT) (fo : Nat → Int64) (ls : Array Slot), LI s dC dI cI cZ cL ad am H locs x z fo → lv_has ls 7 [(4, .int i), (0, .ref b), (1, .ref (ad 0)), (2, .ref (am 0)), (3, .ref (ad 29))] → W p l e room_1 s m #[Value.ref b] below meth c H locs (cells + 1) (slots + 6) (lw_Z below #[Value.ref b] s) (F0 m 1530 ls []) := by
      intro H locs x z fo ls hI hl
      refine lv_iinc (v := i + 6) (lv' := [(4, .int (i + 6)), (0, .ref b), (1, .ref (ad 0)), (2, .ref (am 0)), (3, .ref (ad 29))]) hx hb d_Law_law_1530 hl (k := 0) rfl rfl (by decide) rfl (fun ls hl => ?_)
      refine lv_goto (tgt := 23) hx hb d_Law_law_1533 (by decide) ?_
      refine ih (t + 1) (i + 6) H locs x z fo ls (cells + 1) (slots + 6) ?_ (by omega) (by omega) (by omega) (by omega) hI hl
      rw [Int32.toInt_add, show (6 : Int32).toInt = 6 from rfl, Int.bmod_eq_of_le (by omega) (by omega)]
      omega
    have hc : cells + 1 ≤ 1088 ∧ slots + 6 ≤ 10706 := by omega
    refine lv_aload_n hx hb d_Law_law_33 rfl (lv_at hl 1 rfl) ?_
    refine lv_iload hx hb d_Law_law_34 (lv_at hl 0 rfl) ?_
    refine va_sld hx hb hX hbl hbA hS (vp_in_iff.mpr (by omega)) d_Law_law_36 ?_
    refine lv_bipush (v := 31) hx hb d_Law_law_37 (by decide) ?_
    refine lv_iand hx hb d_Law_law_39 ?_
    by_cases hv : (xs i.toNatClampNeg &&& 31).toInt < 0 ∨ 19 < (xs i.toNatClampNeg &&& 31).toInt
    · refine lv_tableOut (tgt := 1530) hx hb d_Law_law_40 hv (by decide) ?_
      exact W.widen (k := cells + 1) (n := slots + 6) (by omega) (by omega) (next H locs x z fo ls hI0 hl)
    rcases lw_20 hv with hk | hk | hk | hk | hk | hk | hk | hk | hk | hk | hk | hk | hk | hk | hk | hk | hk | hk | hk | hk
    · refine lv_tableIn (tgt := 136) (off := 96) hx hb d_Law_law_40 (by omega) (by omega) (by rw [hk]; rfl) (by decide) ?_
      exact lc_room hF0 hi hI0 hl hc next
    · refine lv_tableIn (tgt := 204) (off := 164) hx hb d_Law_law_40 (by omega) (by omega) (by rw [hk]; rfl) (by decide) ?_
      exact lc_door hF0 hi hI0 hl hc next
    · refine lv_tableIn (tgt := 296) (off := 256) hx hb d_Law_law_40 (by omega) (by omega) (by rw [hk]; rfl) (by decide) ?_
      exact lc_key hF0 hi hI0 hl hc next
    · refine lv_tableIn (tgt := 360) (off := 320) hx hb d_Law_law_40 (by omega) (by omega) (by rw [hk]; rfl) (by decide) ?_
      exact lc_hazard hF0 hi hI0 hl hc next
    · refine lv_tableIn (tgt := 408) (off := 368) hx hb d_Law_law_40 (by omega) (by omega) (by rw [hk]; rfl) (by decide) ?_
      exact lc_way hF0 hi hI0 hl hc next
    · refine lv_tableIn (tgt := 488) (off := 448) hx hb d_Law_law_40 (by omega) (by omega) (by rw [hk]; rfl) (by decide) ?_
      exact lc_step hF0 hi hI0 hl hc next
    · refine lv_tableIn (tgt := 544) (off := 504) hx hb d_Law_law_40 (by omega) (by omega) (by rw [hk]; rfl) (by decide) ?_
      exact lc_told hF0 hi hI0 hl hc next
    · refine lv_tableIn (tgt := 600) (off := 560) hx hb d_Law_law_40 (by omega) (by omega) (by rw [hk]; rfl) (by decide) ?_
      exact lc_hoses hF0 hi hI0 hl hc next
    · refine lv_tableIn (tgt := 668) (off := 628) hx hb d_Law_law_40 (by omega) (by omega) (by rw [hk]; rfl) (by decide) ?_
      exact lc_trapped hF0 hi hI0 hl hc next
    · refine lv_tableIn (tgt := 724) (off := 684) hx hb d_Law_law_40 (by omega) (by omega) (by rw [hk]; rfl) (by decide) ?_
      exact lc_missing hF0 hi hI0 hl hc next
    · refine lv_tableIn (tgt := 780) (off := 740) hx hb d_Law_law_40 (by omega) (by omega) (by rw [hk]; rfl) (by decide) ?_
      exact lc_detector hF0 hi hI0 hl hc next
    · refine lv_tableIn (tgt := 840) (off := 800) hx hb d_Law_law_40 (by omega) (by omega) (by rw [hk]; rfl) (by decide) ?_
      exact lc_alarm hF0 hi hI0 hl hc next
    · refine lv_tableIn (tgt := 908) (off := 868) hx hb d_Law_law_40 (by omega) (by omega) (by rw [hk]; rfl) (by decide) ?_
      exact lc_people hF0 hi hI0 hl hc next
    · refine lv_tableIn (tgt := 1000) (off := 960) hx hb d_Law_law_40 (by omega) (by omega) (by rw [hk]; rfl) (by decide) ?_
      exact lc_inside hF0 hi hI0 hl hc next
    · refine lv_tableIn (tgt := 1068) (off := 1028) hx hb d_Law_law_40 (by omega) (by omega) (by rw [hk]; rfl) (by decide) ?_
      exact lc_window hF0 hi hI0 hl hc next
    · refine lv_tableIn (tgt := 1160) (off := 1120) hx hb d_Law_law_40 (by omega) (by omega) (by rw [hk]; rfl) (by decide) ?_
      exact lc_reaches hF0 hi hI0 hl hc next
    · refine lv_tableIn (tgt := 1271) (off := 1231) hx hb d_Law_law_40 (by omega) (by omega) (by rw [hk]; rfl) (by decide) ?_
      exact lc_ladder hF0 hi hI0 hl hc next
    · refine lv_tableIn (tgt := 1363) (off := 1323) hx hb d_Law_law_40 (by omega) (by omega) (by rw [hk]; rfl) (by decide) ?_
      exact lc_look hF0 hi hI0 hl hc next
    · refine lv_tableIn (tgt := 1411) (off := 1371) hx hb d_Law_law_40 (by omega) (by omega) (by rw [hk]; rfl) (by decide) ?_
      exact lc_old hF0 hi hI0 hl hc next
    · refine lv_tableIn (tgt := 1474) (off := 1434) hx hb d_Law_law_40 (by omega) (by omega) (by rw [hk]; rfl) (by decide) ?_
      exact lc_count hF0 hi hI0 hl hc next
