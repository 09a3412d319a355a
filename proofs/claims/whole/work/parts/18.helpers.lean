theorem in01 : vp_in 0 1 := vp_in_iff.mpr (by decide)
/-- the class's cells and the law's own row of one long -/
def wL (cI cZ cL : ClassId) (ad : Nat → Nat) (x : ST) (fo : Nat → Int64) : va_W := wC cI cZ ad x ++ [(ad 29, .inl (cL, 1, .inr (.inl fo)))]
theorem wL_ad (cI cZ cL : ClassId) (ad : Nat → Nat) (x : ST) (fo : Nat → Int64) : (wL cI cZ cL ad x fo).map (·.1) = (List.range 30).map ad := rfl
theorem wL_set (cI cZ cL : ClassId) (ad : Nat → Nat) (x : ST) (fo f : Nat → Int64) : (wL cI cZ cL ad x fo).set 29 (ad 29, .inl (cL, 1, .inr (.inl f))) = wL cI cZ cL ad x f := rfl
theorem wL_C {D : va_G} {cI cZ cL : ClassId} {ad : Nat → Nat} {x : ST} {fo : Nat → Int64} {H : Heap} (h : va_P D clsA (wL cI cZ cL ad x fo) H) : va_P D clsA (wC cI cZ ad x) H := fun k q hk => h k q (by
  unfold wL
  rw [List.getElem?_append_left (List.getElem?_eq_some_iff.mp hk).1]
  exact hk)
theorem wL_kept {D : va_G} {ws : va_W} {H H1 : Heap} (h : va_P D clsA ws H) (hk : ∀ q : Nat, q < H.size → H1[q]? = H[q]?) : va_P D clsA ws H1 := h.kept (fun k q hq => hk _ (h k q hq).lt)
theorem wL_join {D : va_G} {cI cZ cL : ClassId} {ad : Nat → Nat} {x x' : ST} {fo : Nat → Int64} {H H1 : Heap} (h : va_P D clsA (wL cI cZ cL ad x fo) H) (h1 : va_P D clsA (wC cI cZ ad x') H1) (ho : H1[ad 29]? = H[ad 29]?) : va_P D clsA (wL cI cZ cL ad x' fo) H1 := by
  unfold wL
  refine va_P.app h1 (fun k q hk => ?_)
  have h2 := h 29 (ad 29, .inl (cL, 1, .inr (.inl fo))) rfl
  match k, hk with
  | 0, hk =>
    cases hk
    exact h2.kept ho
  | k + 1, hk => simp at hk
theorem wL_out {D : va_G} {cI cZ cL : ClassId} {ad : Nat → Nat} {x : ST} {fo : Nat → Int64} {H H1 : Heap} (hj : aInj 30 ad) (h : va_P D clsA (wL cI cZ cL ad x fo) H) (hk : ∀ q : Nat, q < H.size → ¬ aC 29 ad H.size q → H1[q]? = H[q]?) : H1[ad 29]? = H[ad 29]? := by
  have h2 := h 29 (ad 29, .inl (cL, 1, .inr (.inl fo))) rfl
  refine hk _ h2.lt (fun hq => ?_)
  rcases hq with ⟨k, hk1, hk2⟩ | hq
  · have := hj 29 k (by omega) (by omega) hk2
    omega
  · exact absurd h2.lt (Nat.not_lt.mpr hq)
theorem aInj_29 {ad : Nat → Nat} (hj : aInj 30 ad) : aInj 29 ad := fun i j hi hj' e => hj i j (by omega) (by omega) e
theorem aC_29 {ad : Nat → Nat} {sz : Nat} : ∀ q, aC 29 ad sz q → aC 30 ad sz q := fun q hq => by
  rcases hq with ⟨k, h1, h2⟩ | hq
  · exact Or.inl ⟨k, by omega, h2⟩
  · exact Or.inr hq
/-- .. and that an exception of one kind is none of another -/
def EL (U : State) : Prop := EX U ∧ ∀ i j, i < 5 → j < 5 → 0 < i → 0 < j → i ≠ j → va_Nc (xnm i) (xnm j) U
theorem EL.warm {s U : State} (hW : s.WarmedH U.vm) (hH : U.heap = s.heap) (h : EL s) : EL U := ⟨h.1.warm hW hH, fun i j a b c d e => va_Nc.moved hW.alike (h.2 i j a b c d e)⟩
def PL (sz : Nat) (D : va_G) (tys : List (ClassId × FieldType)) (ww : va_W) (av : List Value) : Array Value → State → Prop := fun v U => EL U ∧ PCZ sz D tys ww av v U
theorem PL.blind {sz : Nat} {D : va_G} {tys : List (ClassId × FieldType)} {ww : va_W} {av : List Value} : FrameBlind (PL sz D tys ww av) := fun a U g mk q => ⟨EL.warm (s := U) (U := U.calling g mk a) (State.WarmedH.refl U) rfl q.1, PCZ.blind a U g mk q.2⟩
theorem xn_cast {s : State} {args : Array Value} (hE : EX s) {k : Nat} (h0 : 0 < k) (h : k < 5) : (Cond.castable (xnm k) (xnm k)).before args s = true := by
  refine va_Nw.use rfl (hE.1 _ ?_)
  match k, h0, h with
  | 1, _, _ => decide +kernel
  | 2, _, _ => decide +kernel
  | 3, _, _ => decide +kernel
  | 4, _, _ => decide +kernel
theorem cw_Law_7 {R : Room} {s : State} {args : Array Value} {c0 : Cond} {rm : Room} {mc ms : Nat} (hts : ∀ w ∈ c0 :: BW, w.before args s = true) (hrc : rm.cells = mc) (hrs : rm.slots = ms) (hR : rm.frames + 1 ≤ R.frames ∧ 8 + (3 + 11) + rm.locals ≤ R.locals) : CallW R s args "PlanRowsLaw" "PlanRows" 7 y_Plan_room b_Plan_room 3 (some .int) (Cond.code y_Plan_room b_Plan_room 3 (some .int) :: BW) rm mc ms 2 := ⟨callB_of 2 hts (gBW w_232) rfl hrc hrs (hts _ (List.mem_cons_of_mem _ w_1)) (hts _ (List.mem_cons_of_mem _ w_229)) (by decide +kernel) hR, hts _ (List.mem_cons_of_mem _ w_230), hts _ (List.mem_cons_of_mem _ w_231)⟩
theorem cw_Law_19 {R : Room} {s : State} {args : Array Value} {c0 : Cond} {rm : Room} {mc ms : Nat} (hts : ∀ w ∈ c0 :: BW, w.before args s = true) (hrc : rm.cells = mc) (hrs : rm.slots = ms) (hR : rm.frames + 1 ≤ R.frames ∧ 8 + (7 + 11) + rm.locals ≤ R.locals) : CallW R s args "PlanRowsLaw" "PlanRows" 19 y_Plan_door b_Plan_door 7 (some .int) (Cond.code y_Plan_door b_Plan_door 7 (some .int) :: BW) rm mc ms 4 := ⟨callB_of 4 hts (gBW w_354) rfl hrc hrs (hts _ (List.mem_cons_of_mem _ w_1)) (hts _ (List.mem_cons_of_mem _ w_351)) (by decide +kernel) hR, hts _ (List.mem_cons_of_mem _ w_352), hts _ (List.mem_cons_of_mem _ w_353)⟩
theorem cw_Law_25 {R : Room} {s : State} {args : Array Value} {c0 : Cond} {rm : Room} {mc ms : Nat} (hts : ∀ w ∈ c0 :: BW, w.before args s = true) (hrc : rm.cells = mc) (hrs : rm.slots = ms) (hR : rm.frames + 1 ≤ R.frames ∧ 8 + (3 + 11) + rm.locals ≤ R.locals) : CallW R s args "PlanRowsLaw" "PlanRows" 25 y_Plan_key b_Plan_key 3 none (Cond.code y_Plan_key b_Plan_key 3 none :: BW) rm mc ms 2 := ⟨callB_of 2 hts (gBW w_398) rfl hrc hrs (hts _ (List.mem_cons_of_mem _ w_1)) (hts _ (List.mem_cons_of_mem _ w_395)) (by decide +kernel) hR, hts _ (List.mem_cons_of_mem _ w_396), hts _ (List.mem_cons_of_mem _ w_397)⟩
theorem cw_Law_29 {R : Room} {s : State} {args : Array Value} {c0 : Cond} {rm : Room} {mc ms : Nat} (hts : ∀ w ∈ c0 :: BW, w.before args s = true) (hrc : rm.cells = mc) (hrs : rm.slots = ms) (hR : rm.frames + 1 ≤ R.frames ∧ 8 + (3 + 11) + rm.locals ≤ R.locals) : CallW R s args "PlanRowsLaw" "PlanRows" 29 y_Plan_hazard b_Plan_hazard 3 none (Cond.code y_Plan_hazard b_Plan_hazard 3 none :: BW) rm mc ms 2 := ⟨callB_of 2 hts (gBW w_420) rfl hrc hrs (hts _ (List.mem_cons_of_mem _ w_1)) (hts _ (List.mem_cons_of_mem _ w_417)) (by decide +kernel) hR, hts _ (List.mem_cons_of_mem _ w_418), hts _ (List.mem_cons_of_mem _ w_419)⟩
theorem cw_Law_33 {R : Room} {s : State} {args : Array Value} {c0 : Cond} {rm : Room} {mc ms : Nat} (hts : ∀ w ∈ c0 :: BW, w.before args s = true) (hrc : rm.cells = mc) (hrs : rm.slots = ms) (hR : rm.frames + 1 ≤ R.frames ∧ 8 + (5 + 11) + rm.locals ≤ R.locals) : CallW R s args "PlanRowsLaw" "PlanRows" 33 y_Plan_way b_Plan_way 5 (some .int) (Cond.code y_Plan_way b_Plan_way 5 (some .int) :: BW) rm mc ms 3 := ⟨callB_of 3 hts (gBW w_431) rfl hrc hrs (hts _ (List.mem_cons_of_mem _ w_1)) (hts _ (List.mem_cons_of_mem _ w_428)) (by decide +kernel) hR, hts _ (List.mem_cons_of_mem _ w_429), hts _ (List.mem_cons_of_mem _ w_430)⟩
theorem cw_Law_37 {R : Room} {s : State} {args : Array Value} {c0 : Cond} {rm : Room} {mc ms : Nat} (hts : ∀ w ∈ c0 :: BW, w.before args s = true) (hrc : rm.cells = mc) (hrs : rm.slots = ms) (hR : rm.frames + 1 ≤ R.frames ∧ 8 + (2 + 11) + rm.locals ≤ R.locals) : CallW R s args "PlanRowsLaw" "PlanRows" 37 y_Plan_step b_Plan_step 2 (some .int) (Cond.code y_Plan_step b_Plan_step 2 (some .int) :: BW) rm mc ms 1 := ⟨callB_of 1 hts (gBW w_530) rfl hrc hrs (hts _ (List.mem_cons_of_mem _ w_1)) (hts _ (List.mem_cons_of_mem _ w_527)) (by decide +kernel) hR, hts _ (List.mem_cons_of_mem _ w_528), hts _ (List.mem_cons_of_mem _ w_529)⟩
theorem cw_Law_41 {R : Room} {s : State} {args : Array Value} {c0 : Cond} {rm : Room} {mc ms : Nat} (hts : ∀ w ∈ c0 :: BW, w.before args s = true) (hrc : rm.cells = mc) (hrs : rm.slots = ms) (hR : rm.frames + 1 ≤ R.frames ∧ 8 + (2 + 11) + rm.locals ≤ R.locals) : CallW R s args "PlanRowsLaw" "PlanRows" 41 y_Plan_told b_Plan_told 2 (some .int) (Cond.code y_Plan_told b_Plan_told 2 (some .int) :: BW) rm mc ms 1 := ⟨callB_of 1 hts (gBW w_545) rfl hrc hrs (hts _ (List.mem_cons_of_mem _ w_1)) (hts _ (List.mem_cons_of_mem _ w_542)) (by decide +kernel) hR, hts _ (List.mem_cons_of_mem _ w_543), hts _ (List.mem_cons_of_mem _ w_544)⟩
theorem cw_Law_44 {R : Room} {s : State} {args : Array Value} {c0 : Cond} {rm : Room} {mc ms : Nat} (hts : ∀ w ∈ c0 :: BW, w.before args s = true) (hrc : rm.cells = mc) (hrs : rm.slots = ms) (hR : rm.frames + 1 ≤ R.frames ∧ 8 + (4 + 11) + rm.locals ≤ R.locals) : CallW R s args "PlanRowsLaw" "PlanRows" 44 y_Plan_hoses b_Plan_hoses 4 (some .int) (Cond.code y_Plan_hoses b_Plan_hoses 4 (some .int) :: BW) rm mc ms 2 := ⟨callB_of 2 hts (gBW w_553) rfl hrc hrs (hts _ (List.mem_cons_of_mem _ w_1)) (hts _ (List.mem_cons_of_mem _ w_550)) (by decide +kernel) hR, hts _ (List.mem_cons_of_mem _ w_551), hts _ (List.mem_cons_of_mem _ w_552)⟩
theorem cw_Law_47 {R : Room} {s : State} {args : Array Value} {c0 : Cond} {rm : Room} {mc ms : Nat} (hts : ∀ w ∈ c0 :: BW, w.before args s = true) (hrc : rm.cells = mc) (hrs : rm.slots = ms) (hR : rm.frames + 1 ≤ R.frames ∧ 8 + (2 + 11) + rm.locals ≤ R.locals) : CallW R s args "PlanRowsLaw" "PlanRows" 47 y_Plan_trapped b_Plan_trapped 2 (some .int) (Cond.code y_Plan_trapped b_Plan_trapped 2 (some .int) :: BW) rm mc ms 1 := ⟨callB_of 1 hts (gBW w_560) rfl hrc hrs (hts _ (List.mem_cons_of_mem _ w_1)) (hts _ (List.mem_cons_of_mem _ w_557)) (by decide +kernel) hR, hts _ (List.mem_cons_of_mem _ w_558), hts _ (List.mem_cons_of_mem _ w_559)⟩
theorem cw_Law_50 {R : Room} {s : State} {args : Array Value} {c0 : Cond} {rm : Room} {mc ms : Nat} (hts : ∀ w ∈ c0 :: BW, w.before args s = true) (hrc : rm.cells = mc) (hrs : rm.slots = ms) (hR : rm.frames + 1 ≤ R.frames ∧ 8 + (4 + 11) + rm.locals ≤ R.locals) : CallW R s args "PlanRowsLaw" "PlanRows" 50 y_Plan_missing b_Plan_missing 4 (some .int) (Cond.code y_Plan_missing b_Plan_missing 4 (some .int) :: BW) rm mc ms 1 := ⟨callB_of 1 hts (gBW w_575) rfl hrc hrs (hts _ (List.mem_cons_of_mem _ w_1)) (hts _ (List.mem_cons_of_mem _ w_572)) (by decide +kernel) hR, hts _ (List.mem_cons_of_mem _ w_573), hts _ (List.mem_cons_of_mem _ w_574)⟩
theorem cw_Law_53 {R : Room} {s : State} {args : Array Value} {c0 : Cond} {rm : Room} {mc ms : Nat} (hts : ∀ w ∈ c0 :: BW, w.before args s = true) (hrc : rm.cells = mc) (hrs : rm.slots = ms) (hR : rm.frames + 1 ≤ R.frames ∧ 8 + (4 + 11) + rm.locals ≤ R.locals) : CallW R s args "PlanRowsLaw" "PlanRows" 53 y_Plan_detector b_Plan_detector 4 none (Cond.code y_Plan_detector b_Plan_detector 4 none :: BW) rm mc ms 3 := ⟨callB_of 3 hts (gBW w_586) rfl hrc hrs (hts _ (List.mem_cons_of_mem _ w_1)) (hts _ (List.mem_cons_of_mem _ w_583)) (by decide +kernel) hR, hts _ (List.mem_cons_of_mem _ w_584), hts _ (List.mem_cons_of_mem _ w_585)⟩
theorem cw_Law_57 {R : Room} {s : State} {args : Array Value} {c0 : Cond} {rm : Room} {mc ms : Nat} (hts : ∀ w ∈ c0 :: BW, w.before args s = true) (hrc : rm.cells = mc) (hrs : rm.slots = ms) (hR : rm.frames + 1 ≤ R.frames ∧ 8 + (4 + 11) + rm.locals ≤ R.locals) : CallW R s args "PlanRowsLaw" "PlanRows" 57 y_Plan_alarm b_Plan_alarm 4 (some .int) (Cond.code y_Plan_alarm b_Plan_alarm 4 (some .int) :: BW) rm mc ms 2 := ⟨callB_of 2 hts (gBW w_602) rfl hrc hrs (hts _ (List.mem_cons_of_mem _ w_1)) (hts _ (List.mem_cons_of_mem _ w_599)) (by decide +kernel) hR, hts _ (List.mem_cons_of_mem _ w_600), hts _ (List.mem_cons_of_mem _ w_601)⟩
theorem cw_Law_60 {R : Room} {s : State} {args : Array Value} {c0 : Cond} {rm : Room} {mc ms : Nat} (hts : ∀ w ∈ c0 :: BW, w.before args s = true) (hrc : rm.cells = mc) (hrs : rm.slots = ms) (hR : rm.frames + 1 ≤ R.frames ∧ 8 + (5 + 11) + rm.locals ≤ R.locals) : CallW R s args "PlanRowsLaw" "PlanRows" 60 y_Plan_people b_Plan_people 5 (some .int) (Cond.code y_Plan_people b_Plan_people 5 (some .int) :: BW) rm mc ms 4 := ⟨callB_of 4 hts (gBW w_609) rfl hrc hrs (hts _ (List.mem_cons_of_mem _ w_1)) (hts _ (List.mem_cons_of_mem _ w_606)) (by decide +kernel) hR, hts _ (List.mem_cons_of_mem _ w_607), hts _ (List.mem_cons_of_mem _ w_608)⟩
theorem cw_Law_63 {R : Room} {s : State} {args : Array Value} {c0 : Cond} {rm : Room} {mc ms : Nat} (hts : ∀ w ∈ c0 :: BW, w.before args s = true) (hrc : rm.cells = mc) (hrs : rm.slots = ms) (hR : rm.frames + 1 ≤ R.frames ∧ 8 + (3 + 11) + rm.locals ≤ R.locals) : CallW R s args "PlanRowsLaw" "PlanRows" 63 y_Plan_inside b_Plan_inside 3 (some .int) (Cond.code y_Plan_inside b_Plan_inside 3 (some .int) :: BW) rm mc ms 2 := ⟨callB_of 2 hts (gBW w_620) rfl hrc hrs (hts _ (List.mem_cons_of_mem _ w_1)) (hts _ (List.mem_cons_of_mem _ w_617)) (by decide +kernel) hR, hts _ (List.mem_cons_of_mem _ w_618), hts _ (List.mem_cons_of_mem _ w_619)⟩
theorem cw_Law_66 {R : Room} {s : State} {args : Array Value} {c0 : Cond} {rm : Room} {mc ms : Nat} (hts : ∀ w ∈ c0 :: BW, w.before args s = true) (hrc : rm.cells = mc) (hrs : rm.slots = ms) (hR : rm.frames + 1 ≤ R.frames ∧ 8 + (5 + 11) + rm.locals ≤ R.locals) : CallW R s args "PlanRowsLaw" "PlanRows" 66 y_Plan_window b_Plan_window 5 (some .int) (Cond.code y_Plan_window b_Plan_window 5 (some .int) :: BW) rm mc ms 4 := ⟨callB_of 4 hts (gBW w_635) rfl hrc hrs (hts _ (List.mem_cons_of_mem _ w_1)) (hts _ (List.mem_cons_of_mem _ w_632)) (by decide +kernel) hR, hts _ (List.mem_cons_of_mem _ w_633), hts _ (List.mem_cons_of_mem _ w_634)⟩
theorem cw_Law_69 {R : Room} {s : State} {args : Array Value} {c0 : Cond} {rm : Room} {mc ms : Nat} (hts : ∀ w ∈ c0 :: BW, w.before args s = true) (hrc : rm.cells = mc) (hrs : rm.slots = ms) (hR : rm.frames + 1 ≤ R.frames ∧ 8 + (6 + 11) + rm.locals ≤ R.locals) : CallW R s args "PlanRowsLaw" "PlanRows" 69 y_Plan_reaches b_Plan_reaches 6 (some .boolean) (Cond.code y_Plan_reaches b_Plan_reaches 6 (some .boolean) :: BW) rm mc ms 5 := ⟨callB_of 5 hts (gBW w_651) rfl hrc hrs (hts _ (List.mem_cons_of_mem _ w_1)) (hts _ (List.mem_cons_of_mem _ w_648)) (by decide +kernel) hR, hts _ (List.mem_cons_of_mem _ w_649), hts _ (List.mem_cons_of_mem _ w_650)⟩
theorem cw_Law_73 {R : Room} {s : State} {args : Array Value} {c0 : Cond} {rm : Room} {mc ms : Nat} (hts : ∀ w ∈ c0 :: BW, w.before args s = true) (hrc : rm.cells = mc) (hrs : rm.slots = ms) (hR : rm.frames + 1 ≤ R.frames ∧ 8 + (5 + 11) + rm.locals ≤ R.locals) : CallW R s args "PlanRowsLaw" "PlanRows" 73 y_Plan_ladder b_Plan_ladder 5 (some .int) (Cond.code y_Plan_ladder b_Plan_ladder 5 (some .int) :: BW) rm mc ms 4 := ⟨callB_of 4 hts (gBW w_672) rfl hrc hrs (hts _ (List.mem_cons_of_mem _ w_1)) (hts _ (List.mem_cons_of_mem _ w_669)) (by decide +kernel) hR, hts _ (List.mem_cons_of_mem _ w_670), hts _ (List.mem_cons_of_mem _ w_671)⟩
theorem cw_Law_76 {R : Room} {s : State} {args : Array Value} {c0 : Cond} {rm : Room} {mc ms : Nat} (hts : ∀ w ∈ c0 :: BW, w.before args s = true) (hrc : rm.cells = mc) (hrs : rm.slots = ms) (hR : rm.frames + 1 ≤ R.frames ∧ 8 + (3 + 11) + rm.locals ≤ R.locals) : CallW R s args "PlanRowsLaw" "PlanRows" 76 y_Plan_look b_Plan_look 3 none (Cond.code y_Plan_look b_Plan_look 3 none :: BW) rm mc ms 2 := ⟨callB_of 2 hts (gBW w_686) rfl hrc hrs (hts _ (List.mem_cons_of_mem _ w_1)) (hts _ (List.mem_cons_of_mem _ w_683)) (by decide +kernel) hR, hts _ (List.mem_cons_of_mem _ w_684), hts _ (List.mem_cons_of_mem _ w_685)⟩
theorem cw_Law_79 {R : Room} {s : State} {args : Array Value} {c0 : Cond} {rm : Room} {mc ms : Nat} (hts : ∀ w ∈ c0 :: BW, w.before args s = true) (hrc : rm.cells = mc) (hrs : rm.slots = ms) (hR : rm.frames + 1 ≤ R.frames ∧ 8 + (2 + 11) + rm.locals ≤ R.locals) : CallW R s args "PlanRowsLaw" "PlanRows" 79 y_Plan_old b_Plan_old 2 (some .boolean) (Cond.code y_Plan_old b_Plan_old 2 (some .boolean) :: BW) rm mc ms 1 := ⟨callB_of 1 hts (gBW w_694) rfl hrc hrs (hts _ (List.mem_cons_of_mem _ w_1)) (hts _ (List.mem_cons_of_mem _ w_691)) (by decide +kernel) hR, hts _ (List.mem_cons_of_mem _ w_692), hts _ (List.mem_cons_of_mem _ w_693)⟩
theorem cw_Law_83 {R : Room} {s : State} {args : Array Value} {c0 : Cond} {rm : Room} {mc ms : Nat} (hts : ∀ w ∈ c0 :: BW, w.before args s = true) (hrc : rm.cells = mc) (hrs : rm.slots = ms) (hR : rm.frames + 1 ≤ R.frames ∧ 8 + (2 + 11) + rm.locals ≤ R.locals) : CallW R s args "PlanRowsLaw" "PlanRows" 83 y_Plan_count b_Plan_count 2 (some .int) (Cond.code y_Plan_count b_Plan_count 2 (some .int) :: BW) rm mc ms 1 := ⟨callB_of 1 hts (gBW w_701) rfl hrc hrs (hts _ (List.mem_cons_of_mem _ w_1)) (hts _ (List.mem_cons_of_mem _ w_698)) (by decide +kernel) hR, hts _ (List.mem_cons_of_mem _ w_699), hts _ (List.mem_cons_of_mem _ w_700)⟩
theorem cw_Law_95 {R : Room} {s : State} {args : Array Value} {c0 : Cond} {rm : Room} {mc ms : Nat} (hts : ∀ w ∈ c0 :: BW, w.before args s = true) (hrc : rm.cells = mc) (hrs : rm.slots = ms) (hR : rm.frames + 1 ≤ R.frames ∧ 8 + (3 + 11) + rm.locals ≤ R.locals) : CallW R s args "PlanRowsLaw" "PlanRowsModel" 95 y_Mod_room b_Mod_room 3 (some .int) (Cond.code y_Mod_room b_Mod_room 3 (some .int) :: BW) rm mc ms 2 := ⟨callB_of 2 hts (gBW w_810) rfl hrc hrs (hts _ (List.mem_cons_of_mem _ w_10)) (hts _ (List.mem_cons_of_mem _ w_807)) (by decide +kernel) hR, hts _ (List.mem_cons_of_mem _ w_808), hts _ (List.mem_cons_of_mem _ w_809)⟩
theorem cw_Law_96 {R : Room} {s : State} {args : Array Value} {c0 : Cond} {rm : Room} {mc ms : Nat} (hts : ∀ w ∈ c0 :: BW, w.before args s = true) (hrc : rm.cells = mc) (hrs : rm.slots = ms) (hR : rm.frames + 1 ≤ R.frames ∧ 8 + (1 + 11) + rm.locals ≤ R.locals) : CallW R s args "PlanRowsLaw" "PlanRowsModel" 96 y_Mod_thrown b_Mod_thrown 1 (some .int) (Cond.code y_Mod_thrown b_Mod_thrown 1 (some .int) :: BW) rm mc ms 0 := ⟨callB_of 0 hts (gBW w_806) rfl hrc hrs (hts _ (List.mem_cons_of_mem _ w_10)) (hts _ (List.mem_cons_of_mem _ w_803)) (by decide +kernel) hR, hts _ (List.mem_cons_of_mem _ w_804), hts _ (List.mem_cons_of_mem _ w_805)⟩
theorem cw_Law_103 {R : Room} {s : State} {args : Array Value} {c0 : Cond} {rm : Room} {mc ms : Nat} (hts : ∀ w ∈ c0 :: BW, w.before args s = true) (hrc : rm.cells = mc) (hrs : rm.slots = ms) (hR : rm.frames + 1 ≤ R.frames ∧ 8 + (8 + 11) + rm.locals ≤ R.locals) : CallW R s args "PlanRowsLaw" "PlanRowsModel" 103 y_Mod_door b_Mod_door 8 (some .int) (Cond.code y_Mod_door b_Mod_door 8 (some .int) :: BW) rm mc ms 4 := ⟨callB_of 4 hts (gBW w_821) rfl hrc hrs (hts _ (List.mem_cons_of_mem _ w_10)) (hts _ (List.mem_cons_of_mem _ w_818)) (by decide +kernel) hR, hts _ (List.mem_cons_of_mem _ w_819), hts _ (List.mem_cons_of_mem _ w_820)⟩
theorem cw_Law_107 {R : Room} {s : State} {args : Array Value} {c0 : Cond} {rm : Room} {mc ms : Nat} (hts : ∀ w ∈ c0 :: BW, w.before args s = true) (hrc : rm.cells = mc) (hrs : rm.slots = ms) (hR : rm.frames + 1 ≤ R.frames ∧ 8 + (4 + 11) + rm.locals ≤ R.locals) : CallW R s args "PlanRowsLaw" "PlanRowsModel" 107 y_Mod_key b_Mod_key 4 none (Cond.code y_Mod_key b_Mod_key 4 none :: BW) rm mc ms 2 := ⟨callB_of 2 hts (gBW w_829) rfl hrc hrs (hts _ (List.mem_cons_of_mem _ w_10)) (hts _ (List.mem_cons_of_mem _ w_826)) (by decide +kernel) hR, hts _ (List.mem_cons_of_mem _ w_827), hts _ (List.mem_cons_of_mem _ w_828)⟩
theorem cw_Law_111 {R : Room} {s : State} {args : Array Value} {c0 : Cond} {rm : Room} {mc ms : Nat} (hts : ∀ w ∈ c0 :: BW, w.before args s = true) (hrc : rm.cells = mc) (hrs : rm.slots = ms) (hR : rm.frames + 1 ≤ R.frames ∧ 8 + (3 + 11) + rm.locals ≤ R.locals) : CallW R s args "PlanRowsLaw" "PlanRowsModel" 111 y_Mod_hazard b_Mod_hazard 3 none (Cond.code y_Mod_hazard b_Mod_hazard 3 none :: BW) rm mc ms 2 := ⟨callB_of 2 hts (gBW w_833) rfl hrc hrs (hts _ (List.mem_cons_of_mem _ w_10)) (hts _ (List.mem_cons_of_mem _ w_830)) (by decide +kernel) hR, hts _ (List.mem_cons_of_mem _ w_831), hts _ (List.mem_cons_of_mem _ w_832)⟩
theorem cw_Law_115 {R : Room} {s : State} {args : Array Value} {c0 : Cond} {rm : Room} {mc ms : Nat} (hts : ∀ w ∈ c0 :: BW, w.before args s = true) (hrc : rm.cells = mc) (hrs : rm.slots = ms) (hR : rm.frames + 1 ≤ R.frames ∧ 8 + (6 + 11) + rm.locals ≤ R.locals) : CallW R s args "PlanRowsLaw" "PlanRowsModel" 115 y_Mod_way b_Mod_way 6 (some .int) (Cond.code y_Mod_way b_Mod_way 6 (some .int) :: BW) rm mc ms 3 := ⟨callB_of 3 hts (gBW w_837) rfl hrc hrs (hts _ (List.mem_cons_of_mem _ w_10)) (hts _ (List.mem_cons_of_mem _ w_834)) (by decide +kernel) hR, hts _ (List.mem_cons_of_mem _ w_835), hts _ (List.mem_cons_of_mem _ w_836)⟩
theorem cw_Law_119 {R : Room} {s : State} {args : Array Value} {c0 : Cond} {rm : Room} {mc ms : Nat} (hts : ∀ w ∈ c0 :: BW, w.before args s = true) (hrc : rm.cells = mc) (hrs : rm.slots = ms) (hR : rm.frames + 1 ≤ R.frames ∧ 8 + (2 + 11) + rm.locals ≤ R.locals) : CallW R s args "PlanRowsLaw" "PlanRowsModel" 119 y_Mod_step b_Mod_step 2 (some .int) (Cond.code y_Mod_step b_Mod_step 2 (some .int) :: BW) rm mc ms 1 := ⟨callB_of 1 hts (gBW w_862) rfl hrc hrs (hts _ (List.mem_cons_of_mem _ w_10)) (hts _ (List.mem_cons_of_mem _ w_859)) (by decide +kernel) hR, hts _ (List.mem_cons_of_mem _ w_860), hts _ (List.mem_cons_of_mem _ w_861)⟩
theorem cw_Law_122 {R : Room} {s : State} {args : Array Value} {c0 : Cond} {rm : Room} {mc ms : Nat} (hts : ∀ w ∈ c0 :: BW, w.before args s = true) (hrc : rm.cells = mc) (hrs : rm.slots = ms) (hR : rm.frames + 1 ≤ R.frames ∧ 8 + (2 + 11) + rm.locals ≤ R.locals) : CallW R s args "PlanRowsLaw" "PlanRowsModel" 122 y_Mod_told b_Mod_told 2 (some .int) (Cond.code y_Mod_told b_Mod_told 2 (some .int) :: BW) rm mc ms 1 := ⟨callB_of 1 hts (gBW w_866) rfl hrc hrs (hts _ (List.mem_cons_of_mem _ w_10)) (hts _ (List.mem_cons_of_mem _ w_863)) (by decide +kernel) hR, hts _ (List.mem_cons_of_mem _ w_864), hts _ (List.mem_cons_of_mem _ w_865)⟩
theorem cw_Law_125 {R : Room} {s : State} {args : Array Value} {c0 : Cond} {rm : Room} {mc ms : Nat} (hts : ∀ w ∈ c0 :: BW, w.before args s = true) (hrc : rm.cells = mc) (hrs : rm.slots = ms) (hR : rm.frames + 1 ≤ R.frames ∧ 8 + (4 + 11) + rm.locals ≤ R.locals) : CallW R s args "PlanRowsLaw" "PlanRowsModel" 125 y_Mod_hoses b_Mod_hoses 4 (some .int) (Cond.code y_Mod_hoses b_Mod_hoses 4 (some .int) :: BW) rm mc ms 2 := ⟨callB_of 2 hts (gBW w_870) rfl hrc hrs (hts _ (List.mem_cons_of_mem _ w_10)) (hts _ (List.mem_cons_of_mem _ w_867)) (by decide +kernel) hR, hts _ (List.mem_cons_of_mem _ w_868), hts _ (List.mem_cons_of_mem _ w_869)⟩
theorem cw_Law_128 {R : Room} {s : State} {args : Array Value} {c0 : Cond} {rm : Room} {mc ms : Nat} (hts : ∀ w ∈ c0 :: BW, w.before args s = true) (hrc : rm.cells = mc) (hrs : rm.slots = ms) (hR : rm.frames + 1 ≤ R.frames ∧ 8 + (4 + 11) + rm.locals ≤ R.locals) : CallW R s args "PlanRowsLaw" "PlanRowsModel" 128 y_Mod_trapped b_Mod_trapped 4 (some .int) (Cond.code y_Mod_trapped b_Mod_trapped 4 (some .int) :: BW) rm mc ms 1 := ⟨callB_of 1 hts (gBW w_874) rfl hrc hrs (hts _ (List.mem_cons_of_mem _ w_10)) (hts _ (List.mem_cons_of_mem _ w_871)) (by decide +kernel) hR, hts _ (List.mem_cons_of_mem _ w_872), hts _ (List.mem_cons_of_mem _ w_873)⟩
theorem cw_Law_131 {R : Room} {s : State} {args : Array Value} {c0 : Cond} {rm : Room} {mc ms : Nat} (hts : ∀ w ∈ c0 :: BW, w.before args s = true) (hrc : rm.cells = mc) (hrs : rm.slots = ms) (hR : rm.frames + 1 ≤ R.frames ∧ 8 + (6 + 11) + rm.locals ≤ R.locals) : CallW R s args "PlanRowsLaw" "PlanRowsModel" 131 y_Mod_missing b_Mod_missing 6 (some .int) (Cond.code y_Mod_missing b_Mod_missing 6 (some .int) :: BW) rm mc ms 1 := ⟨callB_of 1 hts (gBW w_878) rfl hrc hrs (hts _ (List.mem_cons_of_mem _ w_10)) (hts _ (List.mem_cons_of_mem _ w_875)) (by decide +kernel) hR, hts _ (List.mem_cons_of_mem _ w_876), hts _ (List.mem_cons_of_mem _ w_877)⟩
theorem cw_Law_135 {R : Room} {s : State} {args : Array Value} {c0 : Cond} {rm : Room} {mc ms : Nat} (hts : ∀ w ∈ c0 :: BW, w.before args s = true) (hrc : rm.cells = mc) (hrs : rm.slots = ms) (hR : rm.frames + 1 ≤ R.frames ∧ 8 + (4 + 11) + rm.locals ≤ R.locals) : CallW R s args "PlanRowsLaw" "PlanRowsModel" 135 y_Mod_detector b_Mod_detector 4 none (Cond.code y_Mod_detector b_Mod_detector 4 none :: BW) rm mc ms 3 := ⟨callB_of 3 hts (gBW w_882) rfl hrc hrs (hts _ (List.mem_cons_of_mem _ w_10)) (hts _ (List.mem_cons_of_mem _ w_879)) (by decide +kernel) hR, hts _ (List.mem_cons_of_mem _ w_880), hts _ (List.mem_cons_of_mem _ w_881)⟩
theorem cw_Law_138 {R : Room} {s : State} {args : Array Value} {c0 : Cond} {rm : Room} {mc ms : Nat} (hts : ∀ w ∈ c0 :: BW, w.before args s = true) (hrc : rm.cells = mc) (hrs : rm.slots = ms) (hR : rm.frames + 1 ≤ R.frames ∧ 8 + (4 + 11) + rm.locals ≤ R.locals) : CallW R s args "PlanRowsLaw" "PlanRowsModel" 138 y_Mod_alarm b_Mod_alarm 4 (some .int) (Cond.code y_Mod_alarm b_Mod_alarm 4 (some .int) :: BW) rm mc ms 2 := ⟨callB_of 2 hts (gBW w_893) rfl hrc hrs (hts _ (List.mem_cons_of_mem _ w_10)) (hts _ (List.mem_cons_of_mem _ w_890)) (by decide +kernel) hR, hts _ (List.mem_cons_of_mem _ w_891), hts _ (List.mem_cons_of_mem _ w_892)⟩
theorem cw_Law_141 {R : Room} {s : State} {args : Array Value} {c0 : Cond} {rm : Room} {mc ms : Nat} (hts : ∀ w ∈ c0 :: BW, w.before args s = true) (hrc : rm.cells = mc) (hrs : rm.slots = ms) (hR : rm.frames + 1 ≤ R.frames ∧ 8 + (5 + 11) + rm.locals ≤ R.locals) : CallW R s args "PlanRowsLaw" "PlanRowsModel" 141 y_Mod_people b_Mod_people 5 (some .int) (Cond.code y_Mod_people b_Mod_people 5 (some .int) :: BW) rm mc ms 4 := ⟨callB_of 4 hts (gBW w_897) rfl hrc hrs (hts _ (List.mem_cons_of_mem _ w_10)) (hts _ (List.mem_cons_of_mem _ w_894)) (by decide +kernel) hR, hts _ (List.mem_cons_of_mem _ w_895), hts _ (List.mem_cons_of_mem _ w_896)⟩
theorem cw_Law_144 {R : Room} {s : State} {args : Array Value} {c0 : Cond} {rm : Room} {mc ms : Nat} (hts : ∀ w ∈ c0 :: BW, w.before args s = true) (hrc : rm.cells = mc) (hrs : rm.slots = ms) (hR : rm.frames + 1 ≤ R.frames ∧ 8 + (8 + 11) + rm.locals ≤ R.locals) : CallW R s args "PlanRowsLaw" "PlanRowsModel" 144 y_Mod_inside b_Mod_inside 8 (some .int) (Cond.code y_Mod_inside b_Mod_inside 8 (some .int) :: BW) rm mc ms 2 := ⟨callB_of 2 hts (gBW w_904) rfl hrc hrs (hts _ (List.mem_cons_of_mem _ w_10)) (hts _ (List.mem_cons_of_mem _ w_901)) (by decide +kernel) hR, hts _ (List.mem_cons_of_mem _ w_902), hts _ (List.mem_cons_of_mem _ w_903)⟩
theorem cw_Law_147 {R : Room} {s : State} {args : Array Value} {c0 : Cond} {rm : Room} {mc ms : Nat} (hts : ∀ w ∈ c0 :: BW, w.before args s = true) (hrc : rm.cells = mc) (hrs : rm.slots = ms) (hR : rm.frames + 1 ≤ R.frames ∧ 8 + (5 + 11) + rm.locals ≤ R.locals) : CallW R s args "PlanRowsLaw" "PlanRowsModel" 147 y_Mod_window b_Mod_window 5 (some .int) (Cond.code y_Mod_window b_Mod_window 5 (some .int) :: BW) rm mc ms 4 := ⟨callB_of 4 hts (gBW w_908) rfl hrc hrs (hts _ (List.mem_cons_of_mem _ w_10)) (hts _ (List.mem_cons_of_mem _ w_905)) (by decide +kernel) hR, hts _ (List.mem_cons_of_mem _ w_906), hts _ (List.mem_cons_of_mem _ w_907)⟩
theorem cw_Law_151 {R : Room} {s : State} {args : Array Value} {c0 : Cond} {rm : Room} {mc ms : Nat} (hts : ∀ w ∈ c0 :: BW, w.before args s = true) (hrc : rm.cells = mc) (hrs : rm.slots = ms) (hR : rm.frames + 1 ≤ R.frames ∧ 8 + (7 + 11) + rm.locals ≤ R.locals) : CallW R s args "PlanRowsLaw" "PlanRowsModel" 151 y_Mod_reaches b_Mod_reaches 7 (some .boolean) (Cond.code y_Mod_reaches b_Mod_reaches 7 (some .boolean) :: BW) rm mc ms 5 := ⟨callB_of 5 hts (gBW w_917) rfl hrc hrs (hts _ (List.mem_cons_of_mem _ w_10)) (hts _ (List.mem_cons_of_mem _ w_914)) (by decide +kernel) hR, hts _ (List.mem_cons_of_mem _ w_915), hts _ (List.mem_cons_of_mem _ w_916)⟩
theorem cw_Law_154 {R : Room} {s : State} {args : Array Value} {c0 : Cond} {rm : Room} {mc ms : Nat} (hts : ∀ w ∈ c0 :: BW, w.before args s = true) (hrc : rm.cells = mc) (hrs : rm.slots = ms) (hR : rm.frames + 1 ≤ R.frames ∧ 8 + (11 + 11) + rm.locals ≤ R.locals) : CallW R s args "PlanRowsLaw" "PlanRowsModel" 154 y_Mod_ladder b_Mod_ladder 11 (some .int) (Cond.code y_Mod_ladder b_Mod_ladder 11 (some .int) :: BW) rm mc ms 4 := ⟨callB_of 4 hts (gBW w_925) rfl hrc hrs (hts _ (List.mem_cons_of_mem _ w_10)) (hts _ (List.mem_cons_of_mem _ w_922)) (by decide +kernel) hR, hts _ (List.mem_cons_of_mem _ w_923), hts _ (List.mem_cons_of_mem _ w_924)⟩
theorem cw_Law_157 {R : Room} {s : State} {args : Array Value} {c0 : Cond} {rm : Room} {mc ms : Nat} (hts : ∀ w ∈ c0 :: BW, w.before args s = true) (hrc : rm.cells = mc) (hrs : rm.slots = ms) (hR : rm.frames + 1 ≤ R.frames ∧ 8 + (4 + 11) + rm.locals ≤ R.locals) : CallW R s args "PlanRowsLaw" "PlanRowsModel" 157 y_Mod_look b_Mod_look 4 none (Cond.code y_Mod_look b_Mod_look 4 none :: BW) rm mc ms 2 := ⟨callB_of 2 hts (gBW w_930) rfl hrc hrs (hts _ (List.mem_cons_of_mem _ w_10)) (hts _ (List.mem_cons_of_mem _ w_927)) (by decide +kernel) hR, hts _ (List.mem_cons_of_mem _ w_928), hts _ (List.mem_cons_of_mem _ w_929)⟩
theorem cw_Law_160 {R : Room} {s : State} {args : Array Value} {c0 : Cond} {rm : Room} {mc ms : Nat} (hts : ∀ w ∈ c0 :: BW, w.before args s = true) (hrc : rm.cells = mc) (hrs : rm.slots = ms) (hR : rm.frames + 1 ≤ R.frames ∧ 8 + (2 + 11) + rm.locals ≤ R.locals) : CallW R s args "PlanRowsLaw" "PlanRowsModel" 160 y_Mod_old b_Mod_old 2 (some .boolean) (Cond.code y_Mod_old b_Mod_old 2 (some .boolean) :: BW) rm mc ms 1 := ⟨callB_of 1 hts (gBW w_935) rfl hrc hrs (hts _ (List.mem_cons_of_mem _ w_10)) (hts _ (List.mem_cons_of_mem _ w_932)) (by decide +kernel) hR, hts _ (List.mem_cons_of_mem _ w_933), hts _ (List.mem_cons_of_mem _ w_934)⟩
theorem cw_Law_163 {R : Room} {s : State} {args : Array Value} {c0 : Cond} {rm : Room} {mc ms : Nat} (hts : ∀ w ∈ c0 :: BW, w.before args s = true) (hrc : rm.cells = mc) (hrs : rm.slots = ms) (hR : rm.frames + 1 ≤ R.frames ∧ 8 + (4 + 11) + rm.locals ≤ R.locals) : CallW R s args "PlanRowsLaw" "PlanRowsModel" 163 y_Mod_count b_Mod_count 4 (some .int) (Cond.code y_Mod_count b_Mod_count 4 (some .int) :: BW) rm mc ms 1 := ⟨callB_of 1 hts (gBW w_939) rfl hrc hrs (hts _ (List.mem_cons_of_mem _ w_10)) (hts _ (List.mem_cons_of_mem _ w_936)) (by decide +kernel) hR, hts _ (List.mem_cons_of_mem _ w_937), hts _ (List.mem_cons_of_mem _ w_938)⟩
theorem kv_room (x : ST) (a1 a2 : Int32) : k_Plan_room x a1 a2 = 0 ∨ k_Plan_room x a1 a2 = 1 ∨ k_Plan_room x a1 a2 = 2 ∨ k_Plan_room x a1 a2 = 4 := by
  unfold k_Plan_room
  repeat' split
  all_goals first | exact (Or.inl rfl) | exact (Or.inr (Or.inl rfl)) | exact (Or.inr (Or.inr (Or.inl rfl))) | exact (Or.inr (Or.inr (Or.inr rfl)))
def hv_room (x : ST) (a1 a2 : Int32) : Int32 := if k_Plan_room x a1 a2 = 0 then 0 else if k_Plan_room x a1 a2 = 1 then 1 else if k_Plan_room x a1 a2 = 2 then 2 else 3
def hs_room (x : ST) (a1 a2 : Int32) : ST := if k_Plan_room x a1 a2 = 0 then (g_Plan_room x a1 a2).2 else x
def ho_room (x : ST) (a1 a2 : Int32) (fo : Nat → Int64) : Nat → Int64 := if k_Plan_room x a1 a2 = 0 then vp_updL fo (0 : Int32).toNatClampNeg (((g_Plan_room x a1 a2).1).toInt64) else fo
set_option maxHeartbeats 400000 in
set_option maxRecDepth 100000 in
theorem h_room (l : Launch) (htr : l.stackTraces = false) (dC : Nat → ClassId) (dI : Nat → Nat → Nat) (cI cZ cL : ClassId) (ad : Nat → Nat) (hj : aInj 30 ad) (x : ST) (hI : CIn x) (fo : Nat → Int64) (sz : Nat) (a1 a2 : Int32) : MX l y_Law_room (Cond.codeWith y_Law_room b_Law_room 5 (some .int) [(0, 10, 13, 13), (0, 10, 17, 15), (0, 10, 21, 17)] :: BW) { frames := 8, cells := 1, slots := 6, locals := 126 } (PL sz (dC, dI) [(cI, .int), (cZ, .boolean), (cL, .long)] (wL cI cZ cL ad x fo) [.ref (ad 0), .int a1, .int a2, .ref (ad 29)]) (UQ (some (.int (hv_room x a1 a2))) (WB (dC, dI) [(cI, .int), (cZ, .boolean), (cL, .long)] (wL cI cZ cL ad (hs_room x a1 a2) (ho_room x a1 a2 fo))) (aC 30 ad sz)) 1 6 (aC 30 ad sz) := by
  refine MX.ofWith (cc := b_Law_room) (maxL := 5) (ret := some .int) (hs := [(0, 10, 13, 13), (0, 10, 17, 15), (0, 10, 21, 17)]) (by decide) rfl ?_
  intro p e s m args below meth c s₁ B hml htab hv
  obtain ⟨hE, hsz, rfl, hP, hK, hN⟩ := hv
  subst hsz
  have hx := B.exec
  have hb := B.bytes
  have hr := B.returns
  have hts := atoms_spec (ws := Cond.codeWith y_Law_room b_Law_room 5 (some .int) [(0, 10, 13, 13), (0, 10, 17, 15), (0, 10, 21, 17)] :: BW) B.pre
  have hbw : ∀ w ∈ BW, w.before ([.ref (ad 0), .int a1, .int a2, .ref (ad 29)]).toArray s = true := fun w h => hts w (List.mem_cons_of_mem _ h)
  have hown : s.vm.findClass "PlanRowsLaw" = some m.cls := findClass_of_methodNamed B.named
  have hlocks := B.notSynchronized
  have hK2 : va_K (dC, dI) clsA [(cI, .int), (cZ, .boolean)] s := hK.sub [0, 1] rfl
  have hPc := wL_C hP
  have hDx : ∀ z f, va_D (aC 30 ad s.heap.size) (wL cI cZ cL ad z f) := fun z f => w_D hj (wL_ad cI cZ cL ad z f) _
  have hS : va_S (aC 30 ad s.heap.size) s.heap s.heap [] := va_S.rf
  have hl := lv_entry ([.ref (ad 0), .int a1, .int a2, .ref (ad 29)]) (n := 5) (Nat.le_of_ble_eq_true rfl)
  rw [lg_entry_eq]
  generalize (lg_sl ([.ref (ad 0), .int a1, .int a2, .ref (ad 29)]) ++ List.replicate (5 - (lg_sl ([.ref (ad 0), .int a1, .int a2, .ref (ad 29)])).length) Slot.unset).toArray = ls at hl ⊢
  have hl : lv_has ls 5 [(0, .ref (ad 0)), (1, .int a1), (2, .int a2), (3, .ref (ad 29))] := hl
  refine lv_aload_n hx hb d_Law_room_0 rfl (lv_at hl 3 rfl) ?_
  refine lv_iconst (v := 0) hx hb d_Law_room_1 (by decide) ?_
  refine lv_aload_n hx hb d_Law_room_2 rfl (lv_at hl 0 rfl) ?_
  refine lv_iload_n hx hb d_Law_room_3 rfl (lv_at hl 1 rfl) ?_
  refine lv_iload_n hx hb d_Law_room_4 rfl (lv_at hl 2 rfl) ?_
  rcases kv_room x a1 a2 with hk | hk | hk | hk
  · refine x_upd (x_runV (C := "PlanRows") (b := ad 0) (As := [.int a1, .int a2]) (rest := [.int 0, .ref (ad 29)]) ⟨hx, hb, hml, hown, hts⟩ (u_Plan_room l dC dI cI cZ ad (aInj_29 hj) x hI s.heap.size a1 a2 hk) (cw_Law_7 hts rfl rfl ⟨Nat.le_of_ble_eq_true rfl, Nat.le_of_ble_eq_true rfl⟩) ⟨PCZ.blind, va_recv hK2 hPc (ci := 8) (q0 := 0) rfl rfl, PCZ.at hK2 hN hPc⟩ rfl rfl hl.1 rfl (lv_room (Nat.le_of_ble_eq_true rfl)) d_Law_room_5 ⟨Nat.zero_le _, Nat.zero_le _⟩) hS (fun q _ h => aC_29 q h) (fun q h => aC_29 q h) (fun t H locs ht hW hB hz1 hk1 hS => ?_)
    obtain ⟨hP1, -, -⟩ := hB
    rw [ht] at hP1
    have hP := wL_join hP hP1 (wL_out hj hP hk1)
    refine lv_i2l hx hb d_Law_room_8 rfl ?_
    have hD := hDx ((g_Plan_room x a1 a2).2) fo
    refine va_last hx hb hK hP hD hS 29 2 rfl rfl in01 d_Law_room_9 (fun H locs hP hD hS => ?_)
    rw [wL_set] at hP
    refine lv_goto (tgt := 25) hx hb d_Law_room_10 (by decide) ?_
    refine lv_iconst (v := 0) hx hb d_Law_room_25 (by decide) ?_
    refine W.widen (k := 1) (n := 6) (by omega) (by omega) ?_
    exact W.toX (W.iret (v := 0) hx hb hr (fun t ht hW => ⟨by rw [show hv_room x a1 a2 = 0 from if_pos hk], ⟨by rw [ht, show hs_room x a1 a2 = (g_Plan_room x a1 a2).2 from if_pos hk, show ho_room x a1 a2 fo = vp_updL fo (0 : Int32).toNatClampNeg (((g_Plan_room x a1 a2).1).toInt64) from if_pos hk]; exact hP, va_K.moved hW.alike hK, hN.warm hW⟩, hS.F ht⟩) hS.2.2 d_Law_room_26)
  · have htq := t_Plan_room l htr dC dI cI cZ ad x hI a1 a2 (by rw [hk]; decide)
    rw [hk] at htq
    refine x_caught (ns := [xnm 1, xnm 2, xnm 4]) (hpc := 13) (x_runV (C := "PlanRows") (b := ad 0) (As := [.int a1, .int a2]) (rest := [.int 0, .ref (ad 29)]) ⟨hx, hb, hml, hown, hts⟩ htq (cw_Law_7 hts rfl rfl ⟨Nat.le_of_ble_eq_true rfl, Nat.le_of_ble_eq_true rfl⟩) ⟨PX.blind, va_recv hK2 hPc (ci := 8) (q0 := 0) rfl rfl, PX.at hE.1 hK2 hN hPc⟩ rfl rfl hl.1 rfl (lv_room (Nat.le_of_ble_eq_true rfl)) d_Law_room_5 ⟨Nat.le_of_ble_eq_true rfl, Nat.le_of_ble_eq_true rfl⟩) hown htab ⟨by decide, by decide, by decide, hbw _ w_226, Or.inl ⟨xn_cast hE.1 (by decide) (by decide), rfl⟩⟩ (fun xq H hz1 hk1 => ?_)
    have hP := wL_kept hP hk1
    have hS : va_S (aC 30 ad s.heap.size) s.heap H [] := ⟨hz1, fun q h1 _ => hk1 q h1, fun q hq => by cases hq⟩
    refine lv_astore (lv' := [(4, .ref xq), (0, .ref (ad 0)), (1, .int a1), (2, .int a2), (3, .ref (ad 29))]) hx hb d_Law_room_13 hl (by decide) rfl (fun ls hl => ?_)
    refine lv_iconst (v := 1) hx hb d_Law_room_15 (by decide) ?_
    refine W.widen (k := 1) (n := 6) (by omega) (by omega) ?_
    exact W.toX (W.iret (v := 1) hx hb hr (fun t ht hW => ⟨by rw [show hv_room x a1 a2 = 1 from by unfold hv_room; rw [hk]; rfl], ⟨by rw [ht, show hs_room x a1 a2 = x from if_neg (by rw [hk]; decide), show ho_room x a1 a2 fo = fo from if_neg (by rw [hk]; decide)]; exact hP, va_K.moved hW.alike hK, hN.warm hW⟩, hS.F ht⟩) hS.2.2 d_Law_room_16)
  · have htq := t_Plan_room l htr dC dI cI cZ ad x hI a1 a2 (by rw [hk]; decide)
    rw [hk] at htq
    refine x_caught (ns := [xnm 1, xnm 2, xnm 4]) (hpc := 17) (x_runV (C := "PlanRows") (b := ad 0) (As := [.int a1, .int a2]) (rest := [.int 0, .ref (ad 29)]) ⟨hx, hb, hml, hown, hts⟩ htq (cw_Law_7 hts rfl rfl ⟨Nat.le_of_ble_eq_true rfl, Nat.le_of_ble_eq_true rfl⟩) ⟨PX.blind, va_recv hK2 hPc (ci := 8) (q0 := 0) rfl rfl, PX.at hE.1 hK2 hN hPc⟩ rfl rfl hl.1 rfl (lv_room (Nat.le_of_ble_eq_true rfl)) d_Law_room_5 ⟨Nat.le_of_ble_eq_true rfl, Nat.le_of_ble_eq_true rfl⟩) hown htab ⟨by decide, by decide, by decide, hbw _ w_226, Or.inr ⟨hE.2 2 1 (by decide) (by decide) (by decide) (by decide) (by decide), ⟨by decide, by decide, by decide, hbw _ w_227, Or.inl ⟨xn_cast hE.1 (by decide) (by decide), rfl⟩⟩⟩⟩ (fun xq H hz1 hk1 => ?_)
    have hP := wL_kept hP hk1
    have hS : va_S (aC 30 ad s.heap.size) s.heap H [] := ⟨hz1, fun q h1 _ => hk1 q h1, fun q hq => by cases hq⟩
    refine lv_astore (lv' := [(4, .ref xq), (0, .ref (ad 0)), (1, .int a1), (2, .int a2), (3, .ref (ad 29))]) hx hb d_Law_room_17 hl (by decide) rfl (fun ls hl => ?_)
    refine lv_iconst (v := 2) hx hb d_Law_room_19 (by decide) ?_
    refine W.widen (k := 1) (n := 6) (by omega) (by omega) ?_
    exact W.toX (W.iret (v := 2) hx hb hr (fun t ht hW => ⟨by rw [show hv_room x a1 a2 = 2 from by unfold hv_room; rw [hk]; rfl], ⟨by rw [ht, show hs_room x a1 a2 = x from if_neg (by rw [hk]; decide), show ho_room x a1 a2 fo = fo from if_neg (by rw [hk]; decide)]; exact hP, va_K.moved hW.alike hK, hN.warm hW⟩, hS.F ht⟩) hS.2.2 d_Law_room_20)
  · have htq := t_Plan_room l htr dC dI cI cZ ad x hI a1 a2 (by rw [hk]; decide)
    rw [hk] at htq
    refine x_caught (ns := [xnm 1, xnm 2, xnm 4]) (hpc := 21) (x_runV (C := "PlanRows") (b := ad 0) (As := [.int a1, .int a2]) (rest := [.int 0, .ref (ad 29)]) ⟨hx, hb, hml, hown, hts⟩ htq (cw_Law_7 hts rfl rfl ⟨Nat.le_of_ble_eq_true rfl, Nat.le_of_ble_eq_true rfl⟩) ⟨PX.blind, va_recv hK2 hPc (ci := 8) (q0 := 0) rfl rfl, PX.at hE.1 hK2 hN hPc⟩ rfl rfl hl.1 rfl (lv_room (Nat.le_of_ble_eq_true rfl)) d_Law_room_5 ⟨Nat.le_of_ble_eq_true rfl, Nat.le_of_ble_eq_true rfl⟩) hown htab ⟨by decide, by decide, by decide, hbw _ w_226, Or.inr ⟨hE.2 4 1 (by decide) (by decide) (by decide) (by decide) (by decide), ⟨by decide, by decide, by decide, hbw _ w_227, Or.inr ⟨hE.2 4 2 (by decide) (by decide) (by decide) (by decide) (by decide), ⟨by decide, by decide, by decide, hbw _ w_228, Or.inl ⟨xn_cast hE.1 (by decide) (by decide), rfl⟩⟩⟩⟩⟩⟩ (fun xq H hz1 hk1 => ?_)
    have hP := wL_kept hP hk1
    have hS : va_S (aC 30 ad s.heap.size) s.heap H [] := ⟨hz1, fun q h1 _ => hk1 q h1, fun q hq => by cases hq⟩
    refine lv_astore (lv' := [(4, .ref xq), (0, .ref (ad 0)), (1, .int a1), (2, .int a2), (3, .ref (ad 29))]) hx hb d_Law_room_21 hl (by decide) rfl (fun ls hl => ?_)
    refine lv_iconst (v := 3) hx hb d_Law_room_23 (by decide) ?_
    refine W.widen (k := 1) (n := 6) (by omega) (by omega) ?_
    exact W.toX (W.iret (v := 3) hx hb hr (fun t ht hW => ⟨by rw [show hv_room x a1 a2 = 3 from by unfold hv_room; rw [hk]; rfl], ⟨by rw [ht, show hs_room x a1 a2 = x from if_neg (by rw [hk]; decide), show ho_room x a1 a2 fo = fo from if_neg (by rw [hk]; decide)]; exact hP, va_K.moved hW.alike hK, hN.warm hW⟩, hS.F ht⟩) hS.2.2 d_Law_room_24)
theorem kv_door (x : ST) (a1 a2 a3 a4 : Int32) : k_Plan_door x a1 a2 a3 a4 = 0 ∨ k_Plan_door x a1 a2 a3 a4 = 1 ∨ k_Plan_door x a1 a2 a3 a4 = 2 ∨ k_Plan_door x a1 a2 a3 a4 = 3 ∨ k_Plan_door x a1 a2 a3 a4 = 4 := by
  unfold k_Plan_door
  repeat' split
  all_goals first | exact (Or.inl rfl) | exact (Or.inr (Or.inl rfl)) | exact (Or.inr (Or.inr (Or.inl rfl))) | exact (Or.inr (Or.inr (Or.inr (Or.inl rfl)))) | exact (Or.inr (Or.inr (Or.inr (Or.inr rfl))))
def hv_door (x : ST) (a1 a2 a3 a4 : Int32) : Int32 := if k_Plan_door x a1 a2 a3 a4 = 0 then 0 else if k_Plan_door x a1 a2 a3 a4 = 1 then 1 else if k_Plan_door x a1 a2 a3 a4 = 2 then 2 else if k_Plan_door x a1 a2 a3 a4 = 3 then 3 else 4
def hs_door (x : ST) (a1 a2 a3 a4 : Int32) : ST := if k_Plan_door x a1 a2 a3 a4 = 0 then (g_Plan_door x a1 a2 a3 a4).2 else x
def ho_door (x : ST) (a1 a2 a3 a4 : Int32) (fo : Nat → Int64) : Nat → Int64 := if k_Plan_door x a1 a2 a3 a4 = 0 then vp_updL fo (0 : Int32).toNatClampNeg (((g_Plan_door x a1 a2 a3 a4).1).toInt64) else fo
set_option maxHeartbeats 400000 in
set_option maxRecDepth 100000 in
theorem h_door (l : Launch) (htr : l.stackTraces = false) (dC : Nat → ClassId) (dI : Nat → Nat → Nat) (cI cZ cL : ClassId) (ad : Nat → Nat) (hj : aInj 30 ad) (x : ST) (hI : CIn x) (fo : Nat → Int64) (sz : Nat) (a1 a2 a3 a4 : Int32) : MX l y_Law_door (Cond.codeWith y_Law_door b_Law_door 7 (some .int) [(0, 14, 17, 13), (0, 14, 21, 15), (0, 14, 25, 23), (0, 14, 29, 17)] :: BW) { frames := 8, cells := 1, slots := 6, locals := 130 } (PL sz (dC, dI) [(cI, .int), (cZ, .boolean), (cL, .long)] (wL cI cZ cL ad x fo) [.ref (ad 0), .int a1, .int a2, .int a3, .int a4, .ref (ad 29)]) (UQ (some (.int (hv_door x a1 a2 a3 a4))) (WB (dC, dI) [(cI, .int), (cZ, .boolean), (cL, .long)] (wL cI cZ cL ad (hs_door x a1 a2 a3 a4) (ho_door x a1 a2 a3 a4 fo))) (aC 30 ad sz)) 1 6 (aC 30 ad sz) := by
  refine MX.ofWith (cc := b_Law_door) (maxL := 7) (ret := some .int) (hs := [(0, 14, 17, 13), (0, 14, 21, 15), (0, 14, 25, 23), (0, 14, 29, 17)]) (by decide) rfl ?_
  intro p e s m args below meth c s₁ B hml htab hv
  obtain ⟨hE, hsz, rfl, hP, hK, hN⟩ := hv
  subst hsz
  have hx := B.exec
  have hb := B.bytes
  have hr := B.returns
  have hts := atoms_spec (ws := Cond.codeWith y_Law_door b_Law_door 7 (some .int) [(0, 14, 17, 13), (0, 14, 21, 15), (0, 14, 25, 23), (0, 14, 29, 17)] :: BW) B.pre
  have hbw : ∀ w ∈ BW, w.before ([.ref (ad 0), .int a1, .int a2, .int a3, .int a4, .ref (ad 29)]).toArray s = true := fun w h => hts w (List.mem_cons_of_mem _ h)
  have hown : s.vm.findClass "PlanRowsLaw" = some m.cls := findClass_of_methodNamed B.named
  have hlocks := B.notSynchronized
  have hK2 : va_K (dC, dI) clsA [(cI, .int), (cZ, .boolean)] s := hK.sub [0, 1] rfl
  have hPc := wL_C hP
  have hDx : ∀ z f, va_D (aC 30 ad s.heap.size) (wL cI cZ cL ad z f) := fun z f => w_D hj (wL_ad cI cZ cL ad z f) _
  have hS : va_S (aC 30 ad s.heap.size) s.heap s.heap [] := va_S.rf
  have hl := lv_entry ([.ref (ad 0), .int a1, .int a2, .int a3, .int a4, .ref (ad 29)]) (n := 7) (Nat.le_of_ble_eq_true rfl)
  rw [lg_entry_eq]
  generalize (lg_sl ([.ref (ad 0), .int a1, .int a2, .int a3, .int a4, .ref (ad 29)]) ++ List.replicate (7 - (lg_sl ([.ref (ad 0), .int a1, .int a2, .int a3, .int a4, .ref (ad 29)])).length) Slot.unset).toArray = ls at hl ⊢
  have hl : lv_has ls 7 [(0, .ref (ad 0)), (1, .int a1), (2, .int a2), (3, .int a3), (4, .int a4), (5, .ref (ad 29))] := hl
  refine lv_aload hx hb d_Law_door_0 (lv_at hl 5 rfl) ?_
  refine lv_iconst (v := 0) hx hb d_Law_door_2 (by decide) ?_
  refine lv_aload_n hx hb d_Law_door_3 rfl (lv_at hl 0 rfl) ?_
  refine lv_iload_n hx hb d_Law_door_4 rfl (lv_at hl 1 rfl) ?_
  refine lv_iload_n hx hb d_Law_door_5 rfl (lv_at hl 2 rfl) ?_
  refine lv_iload_n hx hb d_Law_door_6 rfl (lv_at hl 3 rfl) ?_
  refine lv_iload hx hb d_Law_door_7 (lv_at hl 4 rfl) ?_
  rcases kv_door x a1 a2 a3 a4 with hk | hk | hk | hk | hk
  · refine x_upd (x_runV (C := "PlanRows") (b := ad 0) (As := [.int a1, .int a2, .int a3, .int a4]) (rest := [.int 0, .ref (ad 29)]) ⟨hx, hb, hml, hown, hts⟩ (u_Plan_door l dC dI cI cZ ad (aInj_29 hj) x hI s.heap.size a1 a2 a3 a4 hk) (cw_Law_19 hts rfl rfl ⟨Nat.le_of_ble_eq_true rfl, Nat.le_of_ble_eq_true rfl⟩) ⟨PCZ.blind, va_recv hK2 hPc (ci := 8) (q0 := 0) rfl rfl, PCZ.at hK2 hN hPc⟩ rfl rfl hl.1 rfl (lv_room (Nat.le_of_ble_eq_true rfl)) d_Law_door_9 ⟨Nat.zero_le _, Nat.zero_le _⟩) hS (fun q _ h => aC_29 q h) (fun q h => aC_29 q h) (fun t H locs ht hW hB hz1 hk1 hS => ?_)
    obtain ⟨hP1, -, -⟩ := hB
    rw [ht] at hP1
    have hP := wL_join hP hP1 (wL_out hj hP hk1)
    refine lv_i2l hx hb d_Law_door_12 rfl ?_
    have hD := hDx ((g_Plan_door x a1 a2 a3 a4).2) fo
    refine va_last hx hb hK hP hD hS 29 2 rfl rfl in01 d_Law_door_13 (fun H locs hP hD hS => ?_)
    rw [wL_set] at hP
    refine lv_goto (tgt := 33) hx hb d_Law_door_14 (by decide) ?_
    refine lv_iconst (v := 0) hx hb d_Law_door_33 (by decide) ?_
    refine W.widen (k := 1) (n := 6) (by omega) (by omega) ?_
    exact W.toX (W.iret (v := 0) hx hb hr (fun t ht hW => ⟨by rw [show hv_door x a1 a2 a3 a4 = 0 from if_pos hk], ⟨by rw [ht, show hs_door x a1 a2 a3 a4 = (g_Plan_door x a1 a2 a3 a4).2 from if_pos hk, show ho_door x a1 a2 a3 a4 fo = vp_updL fo (0 : Int32).toNatClampNeg (((g_Plan_door x a1 a2 a3 a4).1).toInt64) from if_pos hk]; exact hP, va_K.moved hW.alike hK, hN.warm hW⟩, hS.F ht⟩) hS.2.2 d_Law_door_34)
  · have htq := t_Plan_door l htr dC dI cI cZ ad x hI a1 a2 a3 a4 (by rw [hk]; decide)
    rw [hk] at htq
    refine x_caught (ns := [xnm 1, xnm 2, xnm 3, xnm 4]) (hpc := 17) (x_runV (C := "PlanRows") (b := ad 0) (As := [.int a1, .int a2, .int a3, .int a4]) (rest := [.int 0, .ref (ad 29)]) ⟨hx, hb, hml, hown, hts⟩ htq (cw_Law_19 hts rfl rfl ⟨Nat.le_of_ble_eq_true rfl, Nat.le_of_ble_eq_true rfl⟩) ⟨PX.blind, va_recv hK2 hPc (ci := 8) (q0 := 0) rfl rfl, PX.at hE.1 hK2 hN hPc⟩ rfl rfl hl.1 rfl (lv_room (Nat.le_of_ble_eq_true rfl)) d_Law_door_9 ⟨Nat.le_of_ble_eq_true rfl, Nat.le_of_ble_eq_true rfl⟩) hown htab ⟨by decide, by decide, by decide, hbw _ w_226, Or.inl ⟨xn_cast hE.1 (by decide) (by decide), rfl⟩⟩ (fun xq H hz1 hk1 => ?_)
    have hP := wL_kept hP hk1
    have hS : va_S (aC 30 ad s.heap.size) s.heap H [] := ⟨hz1, fun q h1 _ => hk1 q h1, fun q hq => by cases hq⟩
    refine lv_astore (lv' := [(6, .ref xq), (0, .ref (ad 0)), (1, .int a1), (2, .int a2), (3, .int a3), (4, .int a4), (5, .ref (ad 29))]) hx hb d_Law_door_17 hl (by decide) rfl (fun ls hl => ?_)
    refine lv_iconst (v := 1) hx hb d_Law_door_19 (by decide) ?_
    refine W.widen (k := 1) (n := 6) (by omega) (by omega) ?_
    exact W.toX (W.iret (v := 1) hx hb hr (fun t ht hW => ⟨by rw [show hv_door x a1 a2 a3 a4 = 1 from by unfold hv_door; rw [hk]; rfl], ⟨by rw [ht, show hs_door x a1 a2 a3 a4 = x from if_neg (by rw [hk]; decide), show ho_door x a1 a2 a3 a4 fo = fo from if_neg (by rw [hk]; decide)]; exact hP, va_K.moved hW.alike hK, hN.warm hW⟩, hS.F ht⟩) hS.2.2 d_Law_door_20)
  · have htq := t_Plan_door l htr dC dI cI cZ ad x hI a1 a2 a3 a4 (by rw [hk]; decide)
    rw [hk] at htq
    refine x_caught (ns := [xnm 1, xnm 2, xnm 3, xnm 4]) (hpc := 21) (x_runV (C := "PlanRows") (b := ad 0) (As := [.int a1, .int a2, .int a3, .int a4]) (rest := [.int 0, .ref (ad 29)]) ⟨hx, hb, hml, hown, hts⟩ htq (cw_Law_19 hts rfl rfl ⟨Nat.le_of_ble_eq_true rfl, Nat.le_of_ble_eq_true rfl⟩) ⟨PX.blind, va_recv hK2 hPc (ci := 8) (q0 := 0) rfl rfl, PX.at hE.1 hK2 hN hPc⟩ rfl rfl hl.1 rfl (lv_room (Nat.le_of_ble_eq_true rfl)) d_Law_door_9 ⟨Nat.le_of_ble_eq_true rfl, Nat.le_of_ble_eq_true rfl⟩) hown htab ⟨by decide, by decide, by decide, hbw _ w_226, Or.inr ⟨hE.2 2 1 (by decide) (by decide) (by decide) (by decide) (by decide), ⟨by decide, by decide, by decide, hbw _ w_227, Or.inl ⟨xn_cast hE.1 (by decide) (by decide), rfl⟩⟩⟩⟩ (fun xq H hz1 hk1 => ?_)
    have hP := wL_kept hP hk1
    have hS : va_S (aC 30 ad s.heap.size) s.heap H [] := ⟨hz1, fun q h1 _ => hk1 q h1, fun q hq => by cases hq⟩
    refine lv_astore (lv' := [(6, .ref xq), (0, .ref (ad 0)), (1, .int a1), (2, .int a2), (3, .int a3), (4, .int a4), (5, .ref (ad 29))]) hx hb d_Law_door_21 hl (by decide) rfl (fun ls hl => ?_)
    refine lv_iconst (v := 2) hx hb d_Law_door_23 (by decide) ?_
    refine W.widen (k := 1) (n := 6) (by omega) (by omega) ?_
    exact W.toX (W.iret (v := 2) hx hb hr (fun t ht hW => ⟨by rw [show hv_door x a1 a2 a3 a4 = 2 from by unfold hv_door; rw [hk]; rfl], ⟨by rw [ht, show hs_door x a1 a2 a3 a4 = x from if_neg (by rw [hk]; decide), show ho_door x a1 a2 a3 a4 fo = fo from if_neg (by rw [hk]; decide)]; exact hP, va_K.moved hW.alike hK, hN.warm hW⟩, hS.F ht⟩) hS.2.2 d_Law_door_24)
  · have htq := t_Plan_door l htr dC dI cI cZ ad x hI a1 a2 a3 a4 (by rw [hk]; decide)
    rw [hk] at htq
    refine x_caught (ns := [xnm 1, xnm 2, xnm 3, xnm 4]) (hpc := 25) (x_runV (C := "PlanRows") (b := ad 0) (As := [.int a1, .int a2, .int a3, .int a4]) (rest := [.int 0, .ref (ad 29)]) ⟨hx, hb, hml, hown, hts⟩ htq (cw_Law_19 hts rfl rfl ⟨Nat.le_of_ble_eq_true rfl, Nat.le_of_ble_eq_true rfl⟩) ⟨PX.blind, va_recv hK2 hPc (ci := 8) (q0 := 0) rfl rfl, PX.at hE.1 hK2 hN hPc⟩ rfl rfl hl.1 rfl (lv_room (Nat.le_of_ble_eq_true rfl)) d_Law_door_9 ⟨Nat.le_of_ble_eq_true rfl, Nat.le_of_ble_eq_true rfl⟩) hown htab ⟨by decide, by decide, by decide, hbw _ w_226, Or.inr ⟨hE.2 3 1 (by decide) (by decide) (by decide) (by decide) (by decide), ⟨by decide, by decide, by decide, hbw _ w_227, Or.inr ⟨hE.2 3 2 (by decide) (by decide) (by decide) (by decide) (by decide), ⟨by decide, by decide, by decide, hbw _ w_350, Or.inl ⟨xn_cast hE.1 (by decide) (by decide), rfl⟩⟩⟩⟩⟩⟩ (fun xq H hz1 hk1 => ?_)
    have hP := wL_kept hP hk1
    have hS : va_S (aC 30 ad s.heap.size) s.heap H [] := ⟨hz1, fun q h1 _ => hk1 q h1, fun q hq => by cases hq⟩
    refine lv_astore (lv' := [(6, .ref xq), (0, .ref (ad 0)), (1, .int a1), (2, .int a2), (3, .int a3), (4, .int a4), (5, .ref (ad 29))]) hx hb d_Law_door_25 hl (by decide) rfl (fun ls hl => ?_)
    refine lv_iconst (v := 3) hx hb d_Law_door_27 (by decide) ?_
    refine W.widen (k := 1) (n := 6) (by omega) (by omega) ?_
    exact W.toX (W.iret (v := 3) hx hb hr (fun t ht hW => ⟨by rw [show hv_door x a1 a2 a3 a4 = 3 from by unfold hv_door; rw [hk]; rfl], ⟨by rw [ht, show hs_door x a1 a2 a3 a4 = x from if_neg (by rw [hk]; decide), show ho_door x a1 a2 a3 a4 fo = fo from if_neg (by rw [hk]; decide)]; exact hP, va_K.moved hW.alike hK, hN.warm hW⟩, hS.F ht⟩) hS.2.2 d_Law_door_28)
  · have htq := t_Plan_door l htr dC dI cI cZ ad x hI a1 a2 a3 a4 (by rw [hk]; decide)
    rw [hk] at htq
    refine x_caught (ns := [xnm 1, xnm 2, xnm 3, xnm 4]) (hpc := 29) (x_runV (C := "PlanRows") (b := ad 0) (As := [.int a1, .int a2, .int a3, .int a4]) (rest := [.int 0, .ref (ad 29)]) ⟨hx, hb, hml, hown, hts⟩ htq (cw_Law_19 hts rfl rfl ⟨Nat.le_of_ble_eq_true rfl, Nat.le_of_ble_eq_true rfl⟩) ⟨PX.blind, va_recv hK2 hPc (ci := 8) (q0 := 0) rfl rfl, PX.at hE.1 hK2 hN hPc⟩ rfl rfl hl.1 rfl (lv_room (Nat.le_of_ble_eq_true rfl)) d_Law_door_9 ⟨Nat.le_of_ble_eq_true rfl, Nat.le_of_ble_eq_true rfl⟩) hown htab ⟨by decide, by decide, by decide, hbw _ w_226, Or.inr ⟨hE.2 4 1 (by decide) (by decide) (by decide) (by decide) (by decide), ⟨by decide, by decide, by decide, hbw _ w_227, Or.inr ⟨hE.2 4 2 (by decide) (by decide) (by decide) (by decide) (by decide), ⟨by decide, by decide, by decide, hbw _ w_350, Or.inr ⟨hE.2 4 3 (by decide) (by decide) (by decide) (by decide) (by decide), ⟨by decide, by decide, by decide, hbw _ w_228, Or.inl ⟨xn_cast hE.1 (by decide) (by decide), rfl⟩⟩⟩⟩⟩⟩⟩⟩ (fun xq H hz1 hk1 => ?_)
    have hP := wL_kept hP hk1
    have hS : va_S (aC 30 ad s.heap.size) s.heap H [] := ⟨hz1, fun q h1 _ => hk1 q h1, fun q hq => by cases hq⟩
    refine lv_astore (lv' := [(6, .ref xq), (0, .ref (ad 0)), (1, .int a1), (2, .int a2), (3, .int a3), (4, .int a4), (5, .ref (ad 29))]) hx hb d_Law_door_29 hl (by decide) rfl (fun ls hl => ?_)
    refine lv_iconst (v := 4) hx hb d_Law_door_31 (by decide) ?_
    refine W.widen (k := 1) (n := 6) (by omega) (by omega) ?_
    exact W.toX (W.iret (v := 4) hx hb hr (fun t ht hW => ⟨by rw [show hv_door x a1 a2 a3 a4 = 4 from by unfold hv_door; rw [hk]; rfl], ⟨by rw [ht, show hs_door x a1 a2 a3 a4 = x from if_neg (by rw [hk]; decide), show ho_door x a1 a2 a3 a4 fo = fo from if_neg (by rw [hk]; decide)]; exact hP, va_K.moved hW.alike hK, hN.warm hW⟩, hS.F ht⟩) hS.2.2 d_Law_door_32)
theorem kv_key (x : ST) (a1 a2 : Int32) : k_Plan_key x a1 a2 = 0 ∨ k_Plan_key x a1 a2 = 1 ∨ k_Plan_key x a1 a2 = 3 := by
  unfold k_Plan_key
  repeat' split
  all_goals first | exact (Or.inl rfl) | exact (Or.inr (Or.inl rfl)) | exact (Or.inr (Or.inr rfl))
def hv_key (x : ST) (a1 a2 : Int32) : Int32 := if k_Plan_key x a1 a2 = 0 then 0 else if k_Plan_key x a1 a2 = 1 then 1 else 2
def hs_key (x : ST) (a1 a2 : Int32) : ST := if k_Plan_key x a1 a2 = 0 then (g_Plan_key x a1 a2).2 else x
set_option maxHeartbeats 400000 in
set_option maxRecDepth 100000 in
theorem h_key (l : Launch) (htr : l.stackTraces = false) (dC : Nat → ClassId) (dI : Nat → Nat → Nat) (cI cZ cL : ClassId) (ad : Nat → Nat) (hj : aInj 30 ad) (x : ST) (hI : CIn x) (fo : Nat → Int64) (sz : Nat) (a1 a2 : Int32) : MX l y_Law_key (Cond.codeWith y_Law_key b_Law_key 4 (some .int) [(0, 6, 9, 13), (0, 6, 12, 23)] :: BW) { frames := 7, cells := 1, slots := 6, locals := 104 } (PL sz (dC, dI) [(cI, .int), (cZ, .boolean), (cL, .long)] (wL cI cZ cL ad x fo) [.ref (ad 0), .int a1, .int a2]) (UQ (some (.int (hv_key x a1 a2))) (WB (dC, dI) [(cI, .int), (cZ, .boolean), (cL, .long)] (wL cI cZ cL ad (hs_key x a1 a2) fo)) (aC 30 ad sz)) 1 6 (aC 30 ad sz) := by
  refine MX.ofWith (cc := b_Law_key) (maxL := 4) (ret := some .int) (hs := [(0, 6, 9, 13), (0, 6, 12, 23)]) (by decide) rfl ?_
  intro p e s m args below meth c s₁ B hml htab hv
  obtain ⟨hE, hsz, rfl, hP, hK, hN⟩ := hv
  subst hsz
  have hx := B.exec
  have hb := B.bytes
  have hr := B.returns
  have hts := atoms_spec (ws := Cond.codeWith y_Law_key b_Law_key 4 (some .int) [(0, 6, 9, 13), (0, 6, 12, 23)] :: BW) B.pre
  have hbw : ∀ w ∈ BW, w.before ([.ref (ad 0), .int a1, .int a2]).toArray s = true := fun w h => hts w (List.mem_cons_of_mem _ h)
  have hown : s.vm.findClass "PlanRowsLaw" = some m.cls := findClass_of_methodNamed B.named
  have hlocks := B.notSynchronized
  have hK2 : va_K (dC, dI) clsA [(cI, .int), (cZ, .boolean)] s := hK.sub [0, 1] rfl
  have hPc := wL_C hP
  have hDx : ∀ z f, va_D (aC 30 ad s.heap.size) (wL cI cZ cL ad z f) := fun z f => w_D hj (wL_ad cI cZ cL ad z f) _
  have hS : va_S (aC 30 ad s.heap.size) s.heap s.heap [] := va_S.rf
  have hl := lv_entry ([.ref (ad 0), .int a1, .int a2]) (n := 4) (Nat.le_of_ble_eq_true rfl)
  rw [lg_entry_eq]
  generalize (lg_sl ([.ref (ad 0), .int a1, .int a2]) ++ List.replicate (4 - (lg_sl ([.ref (ad 0), .int a1, .int a2])).length) Slot.unset).toArray = ls at hl ⊢
  have hl : lv_has ls 4 [(0, .ref (ad 0)), (1, .int a1), (2, .int a2)] := hl
  refine lv_aload_n hx hb d_Law_key_0 rfl (lv_at hl 0 rfl) ?_
  refine lv_iload_n hx hb d_Law_key_1 rfl (lv_at hl 1 rfl) ?_
  refine lv_iload_n hx hb d_Law_key_2 rfl (lv_at hl 2 rfl) ?_
  rcases kv_key x a1 a2 with hk | hk | hk
  · refine x_upd (x_runV (C := "PlanRows") (b := ad 0) (As := [.int a1, .int a2]) (rest := []) ⟨hx, hb, hml, hown, hts⟩ (u_Plan_key l dC dI cI cZ ad (aInj_29 hj) x hI s.heap.size a1 a2 hk) (cw_Law_25 hts rfl rfl ⟨Nat.le_of_ble_eq_true rfl, Nat.le_of_ble_eq_true rfl⟩) ⟨PCZ.blind, va_recv hK2 hPc (ci := 8) (q0 := 0) rfl rfl, PCZ.at hK2 hN hPc⟩ rfl rfl hl.1 rfl (lv_room (Nat.le_of_ble_eq_true rfl)) d_Law_key_3 ⟨Nat.zero_le _, Nat.zero_le _⟩) hS (fun q _ h => aC_29 q h) (fun q h => aC_29 q h) (fun t H locs ht hW hB hz1 hk1 hS => ?_)
    obtain ⟨hP1, -, -⟩ := hB
    rw [ht] at hP1
    have hP := wL_join hP hP1 (wL_out hj hP hk1)
    refine lv_goto (tgt := 15) hx hb d_Law_key_6 (by decide) ?_
    refine lv_iconst (v := 0) hx hb d_Law_key_15 (by decide) ?_
    refine W.widen (k := 1) (n := 6) (by omega) (by omega) ?_
    exact W.toX (W.iret (v := 0) hx hb hr (fun t ht hW => ⟨by rw [show hv_key x a1 a2 = 0 from if_pos hk], ⟨by rw [ht, show hs_key x a1 a2 = (g_Plan_key x a1 a2).2 from if_pos hk]; exact hP, va_K.moved hW.alike hK, hN.warm hW⟩, hS.F ht⟩) hS.2.2 d_Law_key_16)
  · have htq := t_Plan_key l htr dC dI cI cZ ad x hI a1 a2 (by rw [hk]; decide)
    rw [hk] at htq
    refine x_caught (ns := [xnm 1, xnm 3]) (hpc := 9) (x_runV (C := "PlanRows") (b := ad 0) (As := [.int a1, .int a2]) (rest := []) ⟨hx, hb, hml, hown, hts⟩ htq (cw_Law_25 hts rfl rfl ⟨Nat.le_of_ble_eq_true rfl, Nat.le_of_ble_eq_true rfl⟩) ⟨PX.blind, va_recv hK2 hPc (ci := 8) (q0 := 0) rfl rfl, PX.at hE.1 hK2 hN hPc⟩ rfl rfl hl.1 rfl (lv_room (Nat.le_of_ble_eq_true rfl)) d_Law_key_3 ⟨Nat.le_of_ble_eq_true rfl, Nat.le_of_ble_eq_true rfl⟩) hown htab ⟨by decide, by decide, by decide, hbw _ w_226, Or.inl ⟨xn_cast hE.1 (by decide) (by decide), rfl⟩⟩ (fun xq H hz1 hk1 => ?_)
    have hP := wL_kept hP hk1
    have hS : va_S (aC 30 ad s.heap.size) s.heap H [] := ⟨hz1, fun q h1 _ => hk1 q h1, fun q hq => by cases hq⟩
    refine lv_astore_n (lv' := [(3, .ref xq), (0, .ref (ad 0)), (1, .int a1), (2, .int a2)]) hx hb d_Law_key_9 rfl hl (by decide) rfl (fun ls hl => ?_)
    refine lv_iconst (v := 1) hx hb d_Law_key_10 (by decide) ?_
    refine W.widen (k := 1) (n := 6) (by omega) (by omega) ?_
    exact W.toX (W.iret (v := 1) hx hb hr (fun t ht hW => ⟨by rw [show hv_key x a1 a2 = 1 from by unfold hv_key; rw [hk]; rfl], ⟨by rw [ht, show hs_key x a1 a2 = x from if_neg (by rw [hk]; decide)]; exact hP, va_K.moved hW.alike hK, hN.warm hW⟩, hS.F ht⟩) hS.2.2 d_Law_key_11)
  · have htq := t_Plan_key l htr dC dI cI cZ ad x hI a1 a2 (by rw [hk]; decide)
    rw [hk] at htq
    refine x_caught (ns := [xnm 1, xnm 3]) (hpc := 12) (x_runV (C := "PlanRows") (b := ad 0) (As := [.int a1, .int a2]) (rest := []) ⟨hx, hb, hml, hown, hts⟩ htq (cw_Law_25 hts rfl rfl ⟨Nat.le_of_ble_eq_true rfl, Nat.le_of_ble_eq_true rfl⟩) ⟨PX.blind, va_recv hK2 hPc (ci := 8) (q0 := 0) rfl rfl, PX.at hE.1 hK2 hN hPc⟩ rfl rfl hl.1 rfl (lv_room (Nat.le_of_ble_eq_true rfl)) d_Law_key_3 ⟨Nat.le_of_ble_eq_true rfl, Nat.le_of_ble_eq_true rfl⟩) hown htab ⟨by decide, by decide, by decide, hbw _ w_226, Or.inr ⟨hE.2 3 1 (by decide) (by decide) (by decide) (by decide) (by decide), ⟨by decide, by decide, by decide, hbw _ w_350, Or.inl ⟨xn_cast hE.1 (by decide) (by decide), rfl⟩⟩⟩⟩ (fun xq H hz1 hk1 => ?_)
    have hP := wL_kept hP hk1
    have hS : va_S (aC 30 ad s.heap.size) s.heap H [] := ⟨hz1, fun q h1 _ => hk1 q h1, fun q hq => by cases hq⟩
    refine lv_astore_n (lv' := [(3, .ref xq), (0, .ref (ad 0)), (1, .int a1), (2, .int a2)]) hx hb d_Law_key_12 rfl hl (by decide) rfl (fun ls hl => ?_)
    refine lv_iconst (v := 2) hx hb d_Law_key_13 (by decide) ?_
    refine W.widen (k := 1) (n := 6) (by omega) (by omega) ?_
    exact W.toX (W.iret (v := 2) hx hb hr (fun t ht hW => ⟨by rw [show hv_key x a1 a2 = 2 from by unfold hv_key; rw [hk]; rfl], ⟨by rw [ht, show hs_key x a1 a2 = x from if_neg (by rw [hk]; decide)]; exact hP, va_K.moved hW.alike hK, hN.warm hW⟩, hS.F ht⟩) hS.2.2 d_Law_key_14)
theorem kv_hazard (x : ST) (a1 a2 : Int32) : k_Plan_hazard x a1 a2 = 0 ∨ k_Plan_hazard x a1 a2 = 1 ∨ k_Plan_hazard x a1 a2 = 2 := by
  unfold k_Plan_hazard
  repeat' split
  all_goals first | exact (Or.inl rfl) | exact (Or.inr (Or.inl rfl)) | exact (Or.inr (Or.inr rfl))
def hv_hazard (x : ST) (a1 a2 : Int32) : Int32 := if k_Plan_hazard x a1 a2 = 0 then 0 else if k_Plan_hazard x a1 a2 = 1 then 1 else 2
def hs_hazard (x : ST) (a1 a2 : Int32) : ST := if k_Plan_hazard x a1 a2 = 0 then (g_Plan_hazard x a1 a2).2 else x
set_option maxHeartbeats 400000 in
set_option maxRecDepth 100000 in
theorem h_hazard (l : Launch) (htr : l.stackTraces = false) (dC : Nat → ClassId) (dI : Nat → Nat → Nat) (cI cZ cL : ClassId) (ad : Nat → Nat) (hj : aInj 30 ad) (x : ST) (hI : CIn x) (fo : Nat → Int64) (sz : Nat) (a1 a2 : Int32) : MX l y_Law_hazard (Cond.codeWith y_Law_hazard b_Law_hazard 4 (some .int) [(0, 6, 9, 13), (0, 6, 12, 15)] :: BW) { frames := 8, cells := 1, slots := 6, locals := 126 } (PL sz (dC, dI) [(cI, .int), (cZ, .boolean), (cL, .long)] (wL cI cZ cL ad x fo) [.ref (ad 0), .int a1, .int a2]) (UQ (some (.int (hv_hazard x a1 a2))) (WB (dC, dI) [(cI, .int), (cZ, .boolean), (cL, .long)] (wL cI cZ cL ad (hs_hazard x a1 a2) fo)) (aC 30 ad sz)) 1 6 (aC 30 ad sz) := by
  refine MX.ofWith (cc := b_Law_hazard) (maxL := 4) (ret := some .int) (hs := [(0, 6, 9, 13), (0, 6, 12, 15)]) (by decide) rfl ?_
  intro p e s m args below meth c s₁ B hml htab hv
  obtain ⟨hE, hsz, rfl, hP, hK, hN⟩ := hv
  subst hsz
  have hx := B.exec
  have hb := B.bytes
  have hr := B.returns
  have hts := atoms_spec (ws := Cond.codeWith y_Law_hazard b_Law_hazard 4 (some .int) [(0, 6, 9, 13), (0, 6, 12, 15)] :: BW) B.pre
  have hbw : ∀ w ∈ BW, w.before ([.ref (ad 0), .int a1, .int a2]).toArray s = true := fun w h => hts w (List.mem_cons_of_mem _ h)
  have hown : s.vm.findClass "PlanRowsLaw" = some m.cls := findClass_of_methodNamed B.named
  have hlocks := B.notSynchronized
  have hK2 : va_K (dC, dI) clsA [(cI, .int), (cZ, .boolean)] s := hK.sub [0, 1] rfl
  have hPc := wL_C hP
  have hDx : ∀ z f, va_D (aC 30 ad s.heap.size) (wL cI cZ cL ad z f) := fun z f => w_D hj (wL_ad cI cZ cL ad z f) _
  have hS : va_S (aC 30 ad s.heap.size) s.heap s.heap [] := va_S.rf
  have hl := lv_entry ([.ref (ad 0), .int a1, .int a2]) (n := 4) (Nat.le_of_ble_eq_true rfl)
  rw [lg_entry_eq]
  generalize (lg_sl ([.ref (ad 0), .int a1, .int a2]) ++ List.replicate (4 - (lg_sl ([.ref (ad 0), .int a1, .int a2])).length) Slot.unset).toArray = ls at hl ⊢
  have hl : lv_has ls 4 [(0, .ref (ad 0)), (1, .int a1), (2, .int a2)] := hl
  refine lv_aload_n hx hb d_Law_hazard_0 rfl (lv_at hl 0 rfl) ?_
  refine lv_iload_n hx hb d_Law_hazard_1 rfl (lv_at hl 1 rfl) ?_
  refine lv_iload_n hx hb d_Law_hazard_2 rfl (lv_at hl 2 rfl) ?_
  rcases kv_hazard x a1 a2 with hk | hk | hk
  · refine x_upd (x_runV (C := "PlanRows") (b := ad 0) (As := [.int a1, .int a2]) (rest := []) ⟨hx, hb, hml, hown, hts⟩ (u_Plan_hazard l dC dI cI cZ ad (aInj_29 hj) x hI s.heap.size a1 a2 hk) (cw_Law_29 hts rfl rfl ⟨Nat.le_of_ble_eq_true rfl, Nat.le_of_ble_eq_true rfl⟩) ⟨PCZ.blind, va_recv hK2 hPc (ci := 8) (q0 := 0) rfl rfl, PCZ.at hK2 hN hPc⟩ rfl rfl hl.1 rfl (lv_room (Nat.le_of_ble_eq_true rfl)) d_Law_hazard_3 ⟨Nat.zero_le _, Nat.zero_le _⟩) hS (fun q _ h => aC_29 q h) (fun q h => aC_29 q h) (fun t H locs ht hW hB hz1 hk1 hS => ?_)
    obtain ⟨hP1, -, -⟩ := hB
    rw [ht] at hP1
    have hP := wL_join hP hP1 (wL_out hj hP hk1)
    refine lv_goto (tgt := 15) hx hb d_Law_hazard_6 (by decide) ?_
    refine lv_iconst (v := 0) hx hb d_Law_hazard_15 (by decide) ?_
    refine W.widen (k := 1) (n := 6) (by omega) (by omega) ?_
    exact W.toX (W.iret (v := 0) hx hb hr (fun t ht hW => ⟨by rw [show hv_hazard x a1 a2 = 0 from if_pos hk], ⟨by rw [ht, show hs_hazard x a1 a2 = (g_Plan_hazard x a1 a2).2 from if_pos hk]; exact hP, va_K.moved hW.alike hK, hN.warm hW⟩, hS.F ht⟩) hS.2.2 d_Law_hazard_16)
  · have htq := t_Plan_hazard l htr dC dI cI cZ ad x hI a1 a2 (by rw [hk]; decide)
    rw [hk] at htq
    refine x_caught (ns := [xnm 1, xnm 2]) (hpc := 9) (x_runV (C := "PlanRows") (b := ad 0) (As := [.int a1, .int a2]) (rest := []) ⟨hx, hb, hml, hown, hts⟩ htq (cw_Law_29 hts rfl rfl ⟨Nat.le_of_ble_eq_true rfl, Nat.le_of_ble_eq_true rfl⟩) ⟨PX.blind, va_recv hK2 hPc (ci := 8) (q0 := 0) rfl rfl, PX.at hE.1 hK2 hN hPc⟩ rfl rfl hl.1 rfl (lv_room (Nat.le_of_ble_eq_true rfl)) d_Law_hazard_3 ⟨Nat.le_of_ble_eq_true rfl, Nat.le_of_ble_eq_true rfl⟩) hown htab ⟨by decide, by decide, by decide, hbw _ w_226, Or.inl ⟨xn_cast hE.1 (by decide) (by decide), rfl⟩⟩ (fun xq H hz1 hk1 => ?_)
    have hP := wL_kept hP hk1
    have hS : va_S (aC 30 ad s.heap.size) s.heap H [] := ⟨hz1, fun q h1 _ => hk1 q h1, fun q hq => by cases hq⟩
    refine lv_astore_n (lv' := [(3, .ref xq), (0, .ref (ad 0)), (1, .int a1), (2, .int a2)]) hx hb d_Law_hazard_9 rfl hl (by decide) rfl (fun ls hl => ?_)
    refine lv_iconst (v := 1) hx hb d_Law_hazard_10 (by decide) ?_
    refine W.widen (k := 1) (n := 6) (by omega) (by omega) ?_
    exact W.toX (W.iret (v := 1) hx hb hr (fun t ht hW => ⟨by rw [show hv_hazard x a1 a2 = 1 from by unfold hv_hazard; rw [hk]; rfl], ⟨by rw [ht, show hs_hazard x a1 a2 = x from if_neg (by rw [hk]; decide)]; exact hP, va_K.moved hW.alike hK, hN.warm hW⟩, hS.F ht⟩) hS.2.2 d_Law_hazard_11)
  · have htq := t_Plan_hazard l htr dC dI cI cZ ad x hI a1 a2 (by rw [hk]; decide)
    rw [hk] at htq
    refine x_caught (ns := [xnm 1, xnm 2]) (hpc := 12) (x_runV (C := "PlanRows") (b := ad 0) (As := [.int a1, .int a2]) (rest := []) ⟨hx, hb, hml, hown, hts⟩ htq (cw_Law_29 hts rfl rfl ⟨Nat.le_of_ble_eq_true rfl, Nat.le_of_ble_eq_true rfl⟩) ⟨PX.blind, va_recv hK2 hPc (ci := 8) (q0 := 0) rfl rfl, PX.at hE.1 hK2 hN hPc⟩ rfl rfl hl.1 rfl (lv_room (Nat.le_of_ble_eq_true rfl)) d_Law_hazard_3 ⟨Nat.le_of_ble_eq_true rfl, Nat.le_of_ble_eq_true rfl⟩) hown htab ⟨by decide, by decide, by decide, hbw _ w_226, Or.inr ⟨hE.2 2 1 (by decide) (by decide) (by decide) (by decide) (by decide), ⟨by decide, by decide, by decide, hbw _ w_227, Or.inl ⟨xn_cast hE.1 (by decide) (by decide), rfl⟩⟩⟩⟩ (fun xq H hz1 hk1 => ?_)
    have hP := wL_kept hP hk1
    have hS : va_S (aC 30 ad s.heap.size) s.heap H [] := ⟨hz1, fun q h1 _ => hk1 q h1, fun q hq => by cases hq⟩
    refine lv_astore_n (lv' := [(3, .ref xq), (0, .ref (ad 0)), (1, .int a1), (2, .int a2)]) hx hb d_Law_hazard_12 rfl hl (by decide) rfl (fun ls hl => ?_)
    refine lv_iconst (v := 2) hx hb d_Law_hazard_13 (by decide) ?_
    refine W.widen (k := 1) (n := 6) (by omega) (by omega) ?_
    exact W.toX (W.iret (v := 2) hx hb hr (fun t ht hW => ⟨by rw [show hv_hazard x a1 a2 = 2 from by unfold hv_hazard; rw [hk]; rfl], ⟨by rw [ht, show hs_hazard x a1 a2 = x from if_neg (by rw [hk]; decide)]; exact hP, va_K.moved hW.alike hK, hN.warm hW⟩, hS.F ht⟩) hS.2.2 d_Law_hazard_14)
theorem kv_way (x : ST) (a1 a2 a3 : Int32) : k_Plan_way x a1 a2 a3 = 0 ∨ k_Plan_way x a1 a2 a3 = 1 ∨ k_Plan_way x a1 a2 a3 = 2 := by
  unfold k_Plan_way
  repeat' split
  all_goals first | exact (Or.inl rfl) | exact (Or.inr (Or.inl rfl)) | exact (Or.inr (Or.inr rfl))
def hv_way (x : ST) (a1 a2 a3 : Int32) : Int32 := if k_Plan_way x a1 a2 a3 = 0 then 0 else if k_Plan_way x a1 a2 a3 = 1 then 1 else 2
def hs_way (x : ST) (a1 a2 a3 : Int32) : ST := if k_Plan_way x a1 a2 a3 = 0 then (g_Plan_way x a1 a2 a3).2 else x
def ho_way (x : ST) (a1 a2 a3 : Int32) (fo : Nat → Int64) : Nat → Int64 := if k_Plan_way x a1 a2 a3 = 0 then vp_updL fo (0 : Int32).toNatClampNeg (((g_Plan_way x a1 a2 a3).1).toInt64) else fo
set_option maxHeartbeats 400000 in
set_option maxRecDepth 100000 in
theorem h_way (l : Launch) (htr : l.stackTraces = false) (dC : Nat → ClassId) (dI : Nat → Nat → Nat) (cI cZ cL : ClassId) (ad : Nat → Nat) (hj : aInj 30 ad) (x : ST) (hI : CIn x) (fo : Nat → Int64) (sz : Nat) (a1 a2 a3 : Int32) : MX l y_Law_way (Cond.codeWith y_Law_way b_Law_way 6 (some .int) [(0, 12, 15, 13), (0, 12, 19, 15)] :: BW) { frames := 8, cells := 1, slots := 6, locals := 165 } (PL sz (dC, dI) [(cI, .int), (cZ, .boolean), (cL, .long)] (wL cI cZ cL ad x fo) [.ref (ad 0), .int a1, .int a2, .int a3, .ref (ad 29)]) (UQ (some (.int (hv_way x a1 a2 a3))) (WB (dC, dI) [(cI, .int), (cZ, .boolean), (cL, .long)] (wL cI cZ cL ad (hs_way x a1 a2 a3) (ho_way x a1 a2 a3 fo))) (aC 30 ad sz)) 1 6 (aC 30 ad sz) := by
  refine MX.ofWith (cc := b_Law_way) (maxL := 6) (ret := some .int) (hs := [(0, 12, 15, 13), (0, 12, 19, 15)]) (by decide) rfl ?_
  intro p e s m args below meth c s₁ B hml htab hv
  obtain ⟨hE, hsz, rfl, hP, hK, hN⟩ := hv
  subst hsz
  have hx := B.exec
  have hb := B.bytes
  have hr := B.returns
  have hts := atoms_spec (ws := Cond.codeWith y_Law_way b_Law_way 6 (some .int) [(0, 12, 15, 13), (0, 12, 19, 15)] :: BW) B.pre
  have hbw : ∀ w ∈ BW, w.before ([.ref (ad 0), .int a1, .int a2, .int a3, .ref (ad 29)]).toArray s = true := fun w h => hts w (List.mem_cons_of_mem _ h)
  have hown : s.vm.findClass "PlanRowsLaw" = some m.cls := findClass_of_methodNamed B.named
  have hlocks := B.notSynchronized
  have hK2 : va_K (dC, dI) clsA [(cI, .int), (cZ, .boolean)] s := hK.sub [0, 1] rfl
  have hPc := wL_C hP
  have hDx : ∀ z f, va_D (aC 30 ad s.heap.size) (wL cI cZ cL ad z f) := fun z f => w_D hj (wL_ad cI cZ cL ad z f) _
  have hS : va_S (aC 30 ad s.heap.size) s.heap s.heap [] := va_S.rf
  have hl := lv_entry ([.ref (ad 0), .int a1, .int a2, .int a3, .ref (ad 29)]) (n := 6) (Nat.le_of_ble_eq_true rfl)
  rw [lg_entry_eq]
  generalize (lg_sl ([.ref (ad 0), .int a1, .int a2, .int a3, .ref (ad 29)]) ++ List.replicate (6 - (lg_sl ([.ref (ad 0), .int a1, .int a2, .int a3, .ref (ad 29)])).length) Slot.unset).toArray = ls at hl ⊢
  have hl : lv_has ls 6 [(0, .ref (ad 0)), (1, .int a1), (2, .int a2), (3, .int a3), (4, .ref (ad 29))] := hl
  refine lv_aload hx hb d_Law_way_0 (lv_at hl 4 rfl) ?_
  refine lv_iconst (v := 0) hx hb d_Law_way_2 (by decide) ?_
  refine lv_aload_n hx hb d_Law_way_3 rfl (lv_at hl 0 rfl) ?_
  refine lv_iload_n hx hb d_Law_way_4 rfl (lv_at hl 1 rfl) ?_
  refine lv_iload_n hx hb d_Law_way_5 rfl (lv_at hl 2 rfl) ?_
  refine lv_iload_n hx hb d_Law_way_6 rfl (lv_at hl 3 rfl) ?_
  rcases kv_way x a1 a2 a3 with hk | hk | hk
  · refine x_upd (x_runV (C := "PlanRows") (b := ad 0) (As := [.int a1, .int a2, .int a3]) (rest := [.int 0, .ref (ad 29)]) ⟨hx, hb, hml, hown, hts⟩ (u_Plan_way l dC dI cI cZ ad (aInj_29 hj) x hI s.heap.size a1 a2 a3 hk) (cw_Law_33 hts rfl rfl ⟨Nat.le_of_ble_eq_true rfl, Nat.le_of_ble_eq_true rfl⟩) ⟨PCZ.blind, va_recv hK2 hPc (ci := 8) (q0 := 0) rfl rfl, PCZ.at hK2 hN hPc⟩ rfl rfl hl.1 rfl (lv_room (Nat.le_of_ble_eq_true rfl)) d_Law_way_7 ⟨Nat.zero_le _, Nat.zero_le _⟩) hS (fun q _ h => aC_29 q h) (fun q h => aC_29 q h) (fun t H locs ht hW hB hz1 hk1 hS => ?_)
    obtain ⟨hP1, -, -⟩ := hB
    rw [ht] at hP1
    have hP := wL_join hP hP1 (wL_out hj hP hk1)
    refine lv_i2l hx hb d_Law_way_10 rfl ?_
    have hD := hDx ((g_Plan_way x a1 a2 a3).2) fo
    refine va_last hx hb hK hP hD hS 29 2 rfl rfl in01 d_Law_way_11 (fun H locs hP hD hS => ?_)
    rw [wL_set] at hP
    refine lv_goto (tgt := 23) hx hb d_Law_way_12 (by decide) ?_
    refine lv_iconst (v := 0) hx hb d_Law_way_23 (by decide) ?_
    refine W.widen (k := 1) (n := 6) (by omega) (by omega) ?_
    exact W.toX (W.iret (v := 0) hx hb hr (fun t ht hW => ⟨by rw [show hv_way x a1 a2 a3 = 0 from if_pos hk], ⟨by rw [ht, show hs_way x a1 a2 a3 = (g_Plan_way x a1 a2 a3).2 from if_pos hk, show ho_way x a1 a2 a3 fo = vp_updL fo (0 : Int32).toNatClampNeg (((g_Plan_way x a1 a2 a3).1).toInt64) from if_pos hk]; exact hP, va_K.moved hW.alike hK, hN.warm hW⟩, hS.F ht⟩) hS.2.2 d_Law_way_24)
  · have htq := t_Plan_way l htr dC dI cI cZ ad x hI a1 a2 a3 (by rw [hk]; decide)
    rw [hk] at htq
    refine x_caught (ns := [xnm 1, xnm 2]) (hpc := 15) (x_runV (C := "PlanRows") (b := ad 0) (As := [.int a1, .int a2, .int a3]) (rest := [.int 0, .ref (ad 29)]) ⟨hx, hb, hml, hown, hts⟩ htq (cw_Law_33 hts rfl rfl ⟨Nat.le_of_ble_eq_true rfl, Nat.le_of_ble_eq_true rfl⟩) ⟨PX.blind, va_recv hK2 hPc (ci := 8) (q0 := 0) rfl rfl, PX.at hE.1 hK2 hN hPc⟩ rfl rfl hl.1 rfl (lv_room (Nat.le_of_ble_eq_true rfl)) d_Law_way_7 ⟨Nat.le_of_ble_eq_true rfl, Nat.le_of_ble_eq_true rfl⟩) hown htab ⟨by decide, by decide, by decide, hbw _ w_226, Or.inl ⟨xn_cast hE.1 (by decide) (by decide), rfl⟩⟩ (fun xq H hz1 hk1 => ?_)
    have hP := wL_kept hP hk1
    have hS : va_S (aC 30 ad s.heap.size) s.heap H [] := ⟨hz1, fun q h1 _ => hk1 q h1, fun q hq => by cases hq⟩
    refine lv_astore (lv' := [(5, .ref xq), (0, .ref (ad 0)), (1, .int a1), (2, .int a2), (3, .int a3), (4, .ref (ad 29))]) hx hb d_Law_way_15 hl (by decide) rfl (fun ls hl => ?_)
    refine lv_iconst (v := 1) hx hb d_Law_way_17 (by decide) ?_
    refine W.widen (k := 1) (n := 6) (by omega) (by omega) ?_
    exact W.toX (W.iret (v := 1) hx hb hr (fun t ht hW => ⟨by rw [show hv_way x a1 a2 a3 = 1 from by unfold hv_way; rw [hk]; rfl], ⟨by rw [ht, show hs_way x a1 a2 a3 = x from if_neg (by rw [hk]; decide), show ho_way x a1 a2 a3 fo = fo from if_neg (by rw [hk]; decide)]; exact hP, va_K.moved hW.alike hK, hN.warm hW⟩, hS.F ht⟩) hS.2.2 d_Law_way_18)
  · have htq := t_Plan_way l htr dC dI cI cZ ad x hI a1 a2 a3 (by rw [hk]; decide)
    rw [hk] at htq
    refine x_caught (ns := [xnm 1, xnm 2]) (hpc := 19) (x_runV (C := "PlanRows") (b := ad 0) (As := [.int a1, .int a2, .int a3]) (rest := [.int 0, .ref (ad 29)]) ⟨hx, hb, hml, hown, hts⟩ htq (cw_Law_33 hts rfl rfl ⟨Nat.le_of_ble_eq_true rfl, Nat.le_of_ble_eq_true rfl⟩) ⟨PX.blind, va_recv hK2 hPc (ci := 8) (q0 := 0) rfl rfl, PX.at hE.1 hK2 hN hPc⟩ rfl rfl hl.1 rfl (lv_room (Nat.le_of_ble_eq_true rfl)) d_Law_way_7 ⟨Nat.le_of_ble_eq_true rfl, Nat.le_of_ble_eq_true rfl⟩) hown htab ⟨by decide, by decide, by decide, hbw _ w_226, Or.inr ⟨hE.2 2 1 (by decide) (by decide) (by decide) (by decide) (by decide), ⟨by decide, by decide, by decide, hbw _ w_227, Or.inl ⟨xn_cast hE.1 (by decide) (by decide), rfl⟩⟩⟩⟩ (fun xq H hz1 hk1 => ?_)
    have hP := wL_kept hP hk1
    have hS : va_S (aC 30 ad s.heap.size) s.heap H [] := ⟨hz1, fun q h1 _ => hk1 q h1, fun q hq => by cases hq⟩
    refine lv_astore (lv' := [(5, .ref xq), (0, .ref (ad 0)), (1, .int a1), (2, .int a2), (3, .int a3), (4, .ref (ad 29))]) hx hb d_Law_way_19 hl (by decide) rfl (fun ls hl => ?_)
    refine lv_iconst (v := 2) hx hb d_Law_way_21 (by decide) ?_
    refine W.widen (k := 1) (n := 6) (by omega) (by omega) ?_
    exact W.toX (W.iret (v := 2) hx hb hr (fun t ht hW => ⟨by rw [show hv_way x a1 a2 a3 = 2 from by unfold hv_way; rw [hk]; rfl], ⟨by rw [ht, show hs_way x a1 a2 a3 = x from if_neg (by rw [hk]; decide), show ho_way x a1 a2 a3 fo = fo from if_neg (by rw [hk]; decide)]; exact hP, va_K.moved hW.alike hK, hN.warm hW⟩, hS.F ht⟩) hS.2.2 d_Law_way_22)
theorem kv_step (x : ST) (a1 : Int32) : k_Plan_step x a1 = 0 ∨ k_Plan_step x a1 = 2 := by
  unfold k_Plan_step
  repeat' split
  all_goals first | exact (Or.inl rfl) | exact (Or.inr rfl)
def hv_step (x : ST) (a1 : Int32) : Int32 := if k_Plan_step x a1 = 0 then 0 else  1
def hs_step (x : ST) (a1 : Int32) : ST := if k_Plan_step x a1 = 0 then x else x
def ho_step (x : ST) (a1 : Int32) (fo : Nat → Int64) : Nat → Int64 := if k_Plan_step x a1 = 0 then vp_updL fo (0 : Int32).toNatClampNeg ((f_Plan_step x a1).toInt64) else fo
set_option maxHeartbeats 400000 in
set_option maxRecDepth 100000 in
theorem h_step (l : Launch) (htr : l.stackTraces = false) (dC : Nat → ClassId) (dI : Nat → Nat → Nat) (cI cZ cL : ClassId) (ad : Nat → Nat) (hj : aInj 30 ad) (x : ST) (hI : CIn x) (fo : Nat → Int64) (sz : Nat) (a1 : Int32) : MX l y_Law_step (Cond.codeWith y_Law_step b_Law_step 4 (some .int) [(0, 9, 12, 15)] :: BW) { frames := 8, cells := 1, slots := 6, locals := 123 } (PL sz (dC, dI) [(cI, .int), (cZ, .boolean), (cL, .long)] (wL cI cZ cL ad x fo) [.ref (ad 0), .int a1, .ref (ad 29)]) (UQ (some (.int (hv_step x a1))) (WB (dC, dI) [(cI, .int), (cZ, .boolean), (cL, .long)] (wL cI cZ cL ad (hs_step x a1) (ho_step x a1 fo))) (aC 30 ad sz)) 1 6 (aC 30 ad sz) := by
  refine MX.ofWith (cc := b_Law_step) (maxL := 4) (ret := some .int) (hs := [(0, 9, 12, 15)]) (by decide) rfl ?_
  intro p e s m args below meth c s₁ B hml htab hv
  obtain ⟨hE, hsz, rfl, hP, hK, hN⟩ := hv
  subst hsz
  have hx := B.exec
  have hb := B.bytes
  have hr := B.returns
  have hts := atoms_spec (ws := Cond.codeWith y_Law_step b_Law_step 4 (some .int) [(0, 9, 12, 15)] :: BW) B.pre
  have hbw : ∀ w ∈ BW, w.before ([.ref (ad 0), .int a1, .ref (ad 29)]).toArray s = true := fun w h => hts w (List.mem_cons_of_mem _ h)
  have hown : s.vm.findClass "PlanRowsLaw" = some m.cls := findClass_of_methodNamed B.named
  have hlocks := B.notSynchronized
  have hK2 : va_K (dC, dI) clsA [(cI, .int), (cZ, .boolean)] s := hK.sub [0, 1] rfl
  have hPc := wL_C hP
  have hDx : ∀ z f, va_D (aC 30 ad s.heap.size) (wL cI cZ cL ad z f) := fun z f => w_D hj (wL_ad cI cZ cL ad z f) _
  have hS : va_S (aC 30 ad s.heap.size) s.heap s.heap [] := va_S.rf
  have hl := lv_entry ([.ref (ad 0), .int a1, .ref (ad 29)]) (n := 4) (Nat.le_of_ble_eq_true rfl)
  rw [lg_entry_eq]
  generalize (lg_sl ([.ref (ad 0), .int a1, .ref (ad 29)]) ++ List.replicate (4 - (lg_sl ([.ref (ad 0), .int a1, .ref (ad 29)])).length) Slot.unset).toArray = ls at hl ⊢
  have hl : lv_has ls 4 [(0, .ref (ad 0)), (1, .int a1), (2, .ref (ad 29))] := hl
  refine lv_aload_n hx hb d_Law_step_0 rfl (lv_at hl 2 rfl) ?_
  refine lv_iconst (v := 0) hx hb d_Law_step_1 (by decide) ?_
  refine lv_aload_n hx hb d_Law_step_2 rfl (lv_at hl 0 rfl) ?_
  refine lv_iload_n hx hb d_Law_step_3 rfl (lv_at hl 1 rfl) ?_
  rcases kv_step x a1 with hk | hk
  · refine x_pure (x_runV (C := "PlanRows") (b := ad 0) (As := [.int a1]) (rest := [.int 0, .ref (ad 29)]) ⟨hx, hb, hml, hown, hts⟩ (c_Plan_step l dC dI cI cZ ad x hI a1 hk) (cw_Law_37 hts rfl rfl ⟨Nat.le_of_ble_eq_true rfl, Nat.le_of_ble_eq_true rfl⟩) ⟨PC.blind, va_recv hK2 hPc (ci := 8) (q0 := 0) rfl rfl, PC.at hK2 hN hPc⟩ rfl rfl hl.1 rfl (lv_room (Nat.le_of_ble_eq_true rfl)) d_Law_step_4 ⟨Nat.zero_le _, Nat.zero_le _⟩) ?_
    refine lv_i2l hx hb d_Law_step_7 rfl ?_
    have hD := hDx x fo
    refine va_last hx hb hK hP hD hS 29 2 rfl rfl in01 d_Law_step_8 (fun H locs hP hD hS => ?_)
    rw [wL_set] at hP
    refine lv_goto (tgt := 15) hx hb d_Law_step_9 (by decide) ?_
    refine lv_iconst (v := 0) hx hb d_Law_step_15 (by decide) ?_
    refine W.widen (k := 1) (n := 6) (by omega) (by omega) ?_
    exact W.toX (W.iret (v := 0) hx hb hr (fun t ht hW => ⟨by rw [show hv_step x a1 = 0 from if_pos hk], ⟨by rw [ht, show hs_step x a1 = x from if_pos hk, show ho_step x a1 fo = vp_updL fo (0 : Int32).toNatClampNeg ((f_Plan_step x a1).toInt64) from if_pos hk]; exact hP, va_K.moved hW.alike hK, hN.warm hW⟩, hS.F ht⟩) hS.2.2 d_Law_step_16)
  · have htq := t_Plan_step l htr dC dI cI cZ ad x hI a1 (by rw [hk]; decide)
    rw [hk] at htq
    refine x_caught (ns := [xnm 2]) (hpc := 12) (x_runV (C := "PlanRows") (b := ad 0) (As := [.int a1]) (rest := [.int 0, .ref (ad 29)]) ⟨hx, hb, hml, hown, hts⟩ htq (cw_Law_37 hts rfl rfl ⟨Nat.le_of_ble_eq_true rfl, Nat.le_of_ble_eq_true rfl⟩) ⟨PX.blind, va_recv hK2 hPc (ci := 8) (q0 := 0) rfl rfl, PX.at hE.1 hK2 hN hPc⟩ rfl rfl hl.1 rfl (lv_room (Nat.le_of_ble_eq_true rfl)) d_Law_step_4 ⟨Nat.le_of_ble_eq_true rfl, Nat.le_of_ble_eq_true rfl⟩) hown htab ⟨by decide, by decide, by decide, hbw _ w_227, Or.inl ⟨xn_cast hE.1 (by decide) (by decide), rfl⟩⟩ (fun xq H hz1 hk1 => ?_)
    have hP := wL_kept hP hk1
    have hS : va_S (aC 30 ad s.heap.size) s.heap H [] := ⟨hz1, fun q h1 _ => hk1 q h1, fun q hq => by cases hq⟩
    refine lv_astore_n (lv' := [(3, .ref xq), (0, .ref (ad 0)), (1, .int a1), (2, .ref (ad 29))]) hx hb d_Law_step_12 rfl hl (by decide) rfl (fun ls hl => ?_)
    refine lv_iconst (v := 1) hx hb d_Law_step_13 (by decide) ?_
    refine W.widen (k := 1) (n := 6) (by omega) (by omega) ?_
    exact W.toX (W.iret (v := 1) hx hb hr (fun t ht hW => ⟨by rw [show hv_step x a1 = 1 from by unfold hv_step; rw [hk]; rfl], ⟨by rw [ht, show hs_step x a1 = x from if_neg (by rw [hk]; decide), show ho_step x a1 fo = fo from if_neg (by rw [hk]; decide)]; exact hP, va_K.moved hW.alike hK, hN.warm hW⟩, hS.F ht⟩) hS.2.2 d_Law_step_14)
theorem kv_told (x : ST) (a1 : Int32) : k_Plan_told x a1 = 0 ∨ k_Plan_told x a1 = 1 := by
  unfold k_Plan_told
  repeat' split
  all_goals first | exact (Or.inl rfl) | exact (Or.inr rfl)
def hv_told (x : ST) (a1 : Int32) : Int32 := if k_Plan_told x a1 = 0 then 0 else  1
def hs_told (x : ST) (a1 : Int32) : ST := if k_Plan_told x a1 = 0 then x else x
def ho_told (x : ST) (a1 : Int32) (fo : Nat → Int64) : Nat → Int64 := if k_Plan_told x a1 = 0 then vp_updL fo (0 : Int32).toNatClampNeg ((f_Plan_told x a1).toInt64) else fo
set_option maxHeartbeats 400000 in
set_option maxRecDepth 100000 in
theorem h_told (l : Launch) (htr : l.stackTraces = false) (dC : Nat → ClassId) (dI : Nat → Nat → Nat) (cI cZ cL : ClassId) (ad : Nat → Nat) (hj : aInj 30 ad) (x : ST) (hI : CIn x) (fo : Nat → Int64) (sz : Nat) (a1 : Int32) : MX l y_Law_told (Cond.codeWith y_Law_told b_Law_told 4 (some .int) [(0, 9, 12, 13)] :: BW) { frames := 7, cells := 1, slots := 6, locals := 103 } (PL sz (dC, dI) [(cI, .int), (cZ, .boolean), (cL, .long)] (wL cI cZ cL ad x fo) [.ref (ad 0), .int a1, .ref (ad 29)]) (UQ (some (.int (hv_told x a1))) (WB (dC, dI) [(cI, .int), (cZ, .boolean), (cL, .long)] (wL cI cZ cL ad (hs_told x a1) (ho_told x a1 fo))) (aC 30 ad sz)) 1 6 (aC 30 ad sz) := by
  refine MX.ofWith (cc := b_Law_told) (maxL := 4) (ret := some .int) (hs := [(0, 9, 12, 13)]) (by decide) rfl ?_
  intro p e s m args below meth c s₁ B hml htab hv
  obtain ⟨hE, hsz, rfl, hP, hK, hN⟩ := hv
  subst hsz
  have hx := B.exec
  have hb := B.bytes
  have hr := B.returns
  have hts := atoms_spec (ws := Cond.codeWith y_Law_told b_Law_told 4 (some .int) [(0, 9, 12, 13)] :: BW) B.pre
  have hbw : ∀ w ∈ BW, w.before ([.ref (ad 0), .int a1, .ref (ad 29)]).toArray s = true := fun w h => hts w (List.mem_cons_of_mem _ h)
  have hown : s.vm.findClass "PlanRowsLaw" = some m.cls := findClass_of_methodNamed B.named
  have hlocks := B.notSynchronized
  have hK2 : va_K (dC, dI) clsA [(cI, .int), (cZ, .boolean)] s := hK.sub [0, 1] rfl
  have hPc := wL_C hP
  have hDx : ∀ z f, va_D (aC 30 ad s.heap.size) (wL cI cZ cL ad z f) := fun z f => w_D hj (wL_ad cI cZ cL ad z f) _
  have hS : va_S (aC 30 ad s.heap.size) s.heap s.heap [] := va_S.rf
  have hl := lv_entry ([.ref (ad 0), .int a1, .ref (ad 29)]) (n := 4) (Nat.le_of_ble_eq_true rfl)
  rw [lg_entry_eq]
  generalize (lg_sl ([.ref (ad 0), .int a1, .ref (ad 29)]) ++ List.replicate (4 - (lg_sl ([.ref (ad 0), .int a1, .ref (ad 29)])).length) Slot.unset).toArray = ls at hl ⊢
  have hl : lv_has ls 4 [(0, .ref (ad 0)), (1, .int a1), (2, .ref (ad 29))] := hl
  refine lv_aload_n hx hb d_Law_told_0 rfl (lv_at hl 2 rfl) ?_
  refine lv_iconst (v := 0) hx hb d_Law_told_1 (by decide) ?_
  refine lv_aload_n hx hb d_Law_told_2 rfl (lv_at hl 0 rfl) ?_
  refine lv_iload_n hx hb d_Law_told_3 rfl (lv_at hl 1 rfl) ?_
  rcases kv_told x a1 with hk | hk
  · refine x_pure (x_runV (C := "PlanRows") (b := ad 0) (As := [.int a1]) (rest := [.int 0, .ref (ad 29)]) ⟨hx, hb, hml, hown, hts⟩ (c_Plan_told l dC dI cI cZ ad x hI a1 hk) (cw_Law_41 hts rfl rfl ⟨Nat.le_of_ble_eq_true rfl, Nat.le_of_ble_eq_true rfl⟩) ⟨PC.blind, va_recv hK2 hPc (ci := 8) (q0 := 0) rfl rfl, PC.at hK2 hN hPc⟩ rfl rfl hl.1 rfl (lv_room (Nat.le_of_ble_eq_true rfl)) d_Law_told_4 ⟨Nat.zero_le _, Nat.zero_le _⟩) ?_
    refine lv_i2l hx hb d_Law_told_7 rfl ?_
    have hD := hDx x fo
    refine va_last hx hb hK hP hD hS 29 2 rfl rfl in01 d_Law_told_8 (fun H locs hP hD hS => ?_)
    rw [wL_set] at hP
    refine lv_goto (tgt := 15) hx hb d_Law_told_9 (by decide) ?_
    refine lv_iconst (v := 0) hx hb d_Law_told_15 (by decide) ?_
    refine W.widen (k := 1) (n := 6) (by omega) (by omega) ?_
    exact W.toX (W.iret (v := 0) hx hb hr (fun t ht hW => ⟨by rw [show hv_told x a1 = 0 from if_pos hk], ⟨by rw [ht, show hs_told x a1 = x from if_pos hk, show ho_told x a1 fo = vp_updL fo (0 : Int32).toNatClampNeg ((f_Plan_told x a1).toInt64) from if_pos hk]; exact hP, va_K.moved hW.alike hK, hN.warm hW⟩, hS.F ht⟩) hS.2.2 d_Law_told_16)
  · have htq := t_Plan_told l htr dC dI cI cZ ad x hI a1 (by rw [hk]; decide)
    rw [hk] at htq
    refine x_caught (ns := [xnm 1]) (hpc := 12) (x_runV (C := "PlanRows") (b := ad 0) (As := [.int a1]) (rest := [.int 0, .ref (ad 29)]) ⟨hx, hb, hml, hown, hts⟩ htq (cw_Law_41 hts rfl rfl ⟨Nat.le_of_ble_eq_true rfl, Nat.le_of_ble_eq_true rfl⟩) ⟨PX.blind, va_recv hK2 hPc (ci := 8) (q0 := 0) rfl rfl, PX.at hE.1 hK2 hN hPc⟩ rfl rfl hl.1 rfl (lv_room (Nat.le_of_ble_eq_true rfl)) d_Law_told_4 ⟨Nat.le_of_ble_eq_true rfl, Nat.le_of_ble_eq_true rfl⟩) hown htab ⟨by decide, by decide, by decide, hbw _ w_226, Or.inl ⟨xn_cast hE.1 (by decide) (by decide), rfl⟩⟩ (fun xq H hz1 hk1 => ?_)
    have hP := wL_kept hP hk1
    have hS : va_S (aC 30 ad s.heap.size) s.heap H [] := ⟨hz1, fun q h1 _ => hk1 q h1, fun q hq => by cases hq⟩
    refine lv_astore_n (lv' := [(3, .ref xq), (0, .ref (ad 0)), (1, .int a1), (2, .ref (ad 29))]) hx hb d_Law_told_12 rfl hl (by decide) rfl (fun ls hl => ?_)
    refine lv_iconst (v := 1) hx hb d_Law_told_13 (by decide) ?_
    refine W.widen (k := 1) (n := 6) (by omega) (by omega) ?_
    exact W.toX (W.iret (v := 1) hx hb hr (fun t ht hW => ⟨by rw [show hv_told x a1 = 1 from by unfold hv_told; rw [hk]; rfl], ⟨by rw [ht, show hs_told x a1 = x from if_neg (by rw [hk]; decide), show ho_told x a1 fo = fo from if_neg (by rw [hk]; decide)]; exact hP, va_K.moved hW.alike hK, hN.warm hW⟩, hS.F ht⟩) hS.2.2 d_Law_told_14)
theorem kv_hoses (x : ST) (a1 a2 : Int32) : k_Plan_hoses x a1 a2 = 0 ∨ k_Plan_hoses x a1 a2 = 1 ∨ k_Plan_hoses x a1 a2 = 2 := by
  unfold k_Plan_hoses
  repeat' split
  all_goals first | exact (Or.inl rfl) | exact (Or.inr (Or.inl rfl)) | exact (Or.inr (Or.inr rfl))
def hv_hoses (x : ST) (a1 a2 : Int32) : Int32 := if k_Plan_hoses x a1 a2 = 0 then 0 else if k_Plan_hoses x a1 a2 = 1 then 1 else 2
def hs_hoses (x : ST) (a1 a2 : Int32) : ST := if k_Plan_hoses x a1 a2 = 0 then (g_Plan_hoses x a1 a2).2 else x
def ho_hoses (x : ST) (a1 a2 : Int32) (fo : Nat → Int64) : Nat → Int64 := if k_Plan_hoses x a1 a2 = 0 then vp_updL fo (0 : Int32).toNatClampNeg (((g_Plan_hoses x a1 a2).1).toInt64) else fo
set_option maxHeartbeats 400000 in
set_option maxRecDepth 100000 in
theorem h_hoses (l : Launch) (htr : l.stackTraces = false) (dC : Nat → ClassId) (dI : Nat → Nat → Nat) (cI cZ cL : ClassId) (ad : Nat → Nat) (hj : aInj 30 ad) (x : ST) (hI : CIn x) (fo : Nat → Int64) (sz : Nat) (a1 a2 : Int32) : MX l y_Law_hoses (Cond.codeWith y_Law_hoses b_Law_hoses 5 (some .int) [(0, 10, 13, 13), (0, 10, 17, 15)] :: BW) { frames := 8, cells := 1, slots := 6, locals := 164 } (PL sz (dC, dI) [(cI, .int), (cZ, .boolean), (cL, .long)] (wL cI cZ cL ad x fo) [.ref (ad 0), .int a1, .int a2, .ref (ad 29)]) (UQ (some (.int (hv_hoses x a1 a2))) (WB (dC, dI) [(cI, .int), (cZ, .boolean), (cL, .long)] (wL cI cZ cL ad (hs_hoses x a1 a2) (ho_hoses x a1 a2 fo))) (aC 30 ad sz)) 1 6 (aC 30 ad sz) := by
  refine MX.ofWith (cc := b_Law_hoses) (maxL := 5) (ret := some .int) (hs := [(0, 10, 13, 13), (0, 10, 17, 15)]) (by decide) rfl ?_
  intro p e s m args below meth c s₁ B hml htab hv
  obtain ⟨hE, hsz, rfl, hP, hK, hN⟩ := hv
  subst hsz
  have hx := B.exec
  have hb := B.bytes
  have hr := B.returns
  have hts := atoms_spec (ws := Cond.codeWith y_Law_hoses b_Law_hoses 5 (some .int) [(0, 10, 13, 13), (0, 10, 17, 15)] :: BW) B.pre
  have hbw : ∀ w ∈ BW, w.before ([.ref (ad 0), .int a1, .int a2, .ref (ad 29)]).toArray s = true := fun w h => hts w (List.mem_cons_of_mem _ h)
  have hown : s.vm.findClass "PlanRowsLaw" = some m.cls := findClass_of_methodNamed B.named
  have hlocks := B.notSynchronized
  have hK2 : va_K (dC, dI) clsA [(cI, .int), (cZ, .boolean)] s := hK.sub [0, 1] rfl
  have hPc := wL_C hP
  have hDx : ∀ z f, va_D (aC 30 ad s.heap.size) (wL cI cZ cL ad z f) := fun z f => w_D hj (wL_ad cI cZ cL ad z f) _
  have hS : va_S (aC 30 ad s.heap.size) s.heap s.heap [] := va_S.rf
  have hl := lv_entry ([.ref (ad 0), .int a1, .int a2, .ref (ad 29)]) (n := 5) (Nat.le_of_ble_eq_true rfl)
  rw [lg_entry_eq]
  generalize (lg_sl ([.ref (ad 0), .int a1, .int a2, .ref (ad 29)]) ++ List.replicate (5 - (lg_sl ([.ref (ad 0), .int a1, .int a2, .ref (ad 29)])).length) Slot.unset).toArray = ls at hl ⊢
  have hl : lv_has ls 5 [(0, .ref (ad 0)), (1, .int a1), (2, .int a2), (3, .ref (ad 29))] := hl
  refine lv_aload_n hx hb d_Law_hoses_0 rfl (lv_at hl 3 rfl) ?_
  refine lv_iconst (v := 0) hx hb d_Law_hoses_1 (by decide) ?_
  refine lv_aload_n hx hb d_Law_hoses_2 rfl (lv_at hl 0 rfl) ?_
  refine lv_iload_n hx hb d_Law_hoses_3 rfl (lv_at hl 1 rfl) ?_
  refine lv_iload_n hx hb d_Law_hoses_4 rfl (lv_at hl 2 rfl) ?_
  rcases kv_hoses x a1 a2 with hk | hk | hk
  · refine x_upd (x_runV (C := "PlanRows") (b := ad 0) (As := [.int a1, .int a2]) (rest := [.int 0, .ref (ad 29)]) ⟨hx, hb, hml, hown, hts⟩ (u_Plan_hoses l dC dI cI cZ ad (aInj_29 hj) x hI s.heap.size a1 a2 hk) (cw_Law_44 hts rfl rfl ⟨Nat.le_of_ble_eq_true rfl, Nat.le_of_ble_eq_true rfl⟩) ⟨PCZ.blind, va_recv hK2 hPc (ci := 8) (q0 := 0) rfl rfl, PCZ.at hK2 hN hPc⟩ rfl rfl hl.1 rfl (lv_room (Nat.le_of_ble_eq_true rfl)) d_Law_hoses_5 ⟨Nat.zero_le _, Nat.zero_le _⟩) hS (fun q _ h => aC_29 q h) (fun q h => aC_29 q h) (fun t H locs ht hW hB hz1 hk1 hS => ?_)
    obtain ⟨hP1, -, -⟩ := hB
    rw [ht] at hP1
    have hP := wL_join hP hP1 (wL_out hj hP hk1)
    refine lv_i2l hx hb d_Law_hoses_8 rfl ?_
    have hD := hDx ((g_Plan_hoses x a1 a2).2) fo
    refine va_last hx hb hK hP hD hS 29 2 rfl rfl in01 d_Law_hoses_9 (fun H locs hP hD hS => ?_)
    rw [wL_set] at hP
    refine lv_goto (tgt := 21) hx hb d_Law_hoses_10 (by decide) ?_
    refine lv_iconst (v := 0) hx hb d_Law_hoses_21 (by decide) ?_
    refine W.widen (k := 1) (n := 6) (by omega) (by omega) ?_
    exact W.toX (W.iret (v := 0) hx hb hr (fun t ht hW => ⟨by rw [show hv_hoses x a1 a2 = 0 from if_pos hk], ⟨by rw [ht, show hs_hoses x a1 a2 = (g_Plan_hoses x a1 a2).2 from if_pos hk, show ho_hoses x a1 a2 fo = vp_updL fo (0 : Int32).toNatClampNeg (((g_Plan_hoses x a1 a2).1).toInt64) from if_pos hk]; exact hP, va_K.moved hW.alike hK, hN.warm hW⟩, hS.F ht⟩) hS.2.2 d_Law_hoses_22)
  · have htq := t_Plan_hoses l htr dC dI cI cZ ad x hI a1 a2 (by rw [hk]; decide)
    rw [hk] at htq
    refine x_caught (ns := [xnm 1, xnm 2]) (hpc := 13) (x_runV (C := "PlanRows") (b := ad 0) (As := [.int a1, .int a2]) (rest := [.int 0, .ref (ad 29)]) ⟨hx, hb, hml, hown, hts⟩ htq (cw_Law_44 hts rfl rfl ⟨Nat.le_of_ble_eq_true rfl, Nat.le_of_ble_eq_true rfl⟩) ⟨PX.blind, va_recv hK2 hPc (ci := 8) (q0 := 0) rfl rfl, PX.at hE.1 hK2 hN hPc⟩ rfl rfl hl.1 rfl (lv_room (Nat.le_of_ble_eq_true rfl)) d_Law_hoses_5 ⟨Nat.le_of_ble_eq_true rfl, Nat.le_of_ble_eq_true rfl⟩) hown htab ⟨by decide, by decide, by decide, hbw _ w_226, Or.inl ⟨xn_cast hE.1 (by decide) (by decide), rfl⟩⟩ (fun xq H hz1 hk1 => ?_)
    have hP := wL_kept hP hk1
    have hS : va_S (aC 30 ad s.heap.size) s.heap H [] := ⟨hz1, fun q h1 _ => hk1 q h1, fun q hq => by cases hq⟩
    refine lv_astore (lv' := [(4, .ref xq), (0, .ref (ad 0)), (1, .int a1), (2, .int a2), (3, .ref (ad 29))]) hx hb d_Law_hoses_13 hl (by decide) rfl (fun ls hl => ?_)
    refine lv_iconst (v := 1) hx hb d_Law_hoses_15 (by decide) ?_
    refine W.widen (k := 1) (n := 6) (by omega) (by omega) ?_
    exact W.toX (W.iret (v := 1) hx hb hr (fun t ht hW => ⟨by rw [show hv_hoses x a1 a2 = 1 from by unfold hv_hoses; rw [hk]; rfl], ⟨by rw [ht, show hs_hoses x a1 a2 = x from if_neg (by rw [hk]; decide), show ho_hoses x a1 a2 fo = fo from if_neg (by rw [hk]; decide)]; exact hP, va_K.moved hW.alike hK, hN.warm hW⟩, hS.F ht⟩) hS.2.2 d_Law_hoses_16)
  · have htq := t_Plan_hoses l htr dC dI cI cZ ad x hI a1 a2 (by rw [hk]; decide)
    rw [hk] at htq
    refine x_caught (ns := [xnm 1, xnm 2]) (hpc := 17) (x_runV (C := "PlanRows") (b := ad 0) (As := [.int a1, .int a2]) (rest := [.int 0, .ref (ad 29)]) ⟨hx, hb, hml, hown, hts⟩ htq (cw_Law_44 hts rfl rfl ⟨Nat.le_of_ble_eq_true rfl, Nat.le_of_ble_eq_true rfl⟩) ⟨PX.blind, va_recv hK2 hPc (ci := 8) (q0 := 0) rfl rfl, PX.at hE.1 hK2 hN hPc⟩ rfl rfl hl.1 rfl (lv_room (Nat.le_of_ble_eq_true rfl)) d_Law_hoses_5 ⟨Nat.le_of_ble_eq_true rfl, Nat.le_of_ble_eq_true rfl⟩) hown htab ⟨by decide, by decide, by decide, hbw _ w_226, Or.inr ⟨hE.2 2 1 (by decide) (by decide) (by decide) (by decide) (by decide), ⟨by decide, by decide, by decide, hbw _ w_227, Or.inl ⟨xn_cast hE.1 (by decide) (by decide), rfl⟩⟩⟩⟩ (fun xq H hz1 hk1 => ?_)
    have hP := wL_kept hP hk1
    have hS : va_S (aC 30 ad s.heap.size) s.heap H [] := ⟨hz1, fun q h1 _ => hk1 q h1, fun q hq => by cases hq⟩
    refine lv_astore (lv' := [(4, .ref xq), (0, .ref (ad 0)), (1, .int a1), (2, .int a2), (3, .ref (ad 29))]) hx hb d_Law_hoses_17 hl (by decide) rfl (fun ls hl => ?_)
    refine lv_iconst (v := 2) hx hb d_Law_hoses_19 (by decide) ?_
    refine W.widen (k := 1) (n := 6) (by omega) (by omega) ?_
    exact W.toX (W.iret (v := 2) hx hb hr (fun t ht hW => ⟨by rw [show hv_hoses x a1 a2 = 2 from by unfold hv_hoses; rw [hk]; rfl], ⟨by rw [ht, show hs_hoses x a1 a2 = x from if_neg (by rw [hk]; decide), show ho_hoses x a1 a2 fo = fo from if_neg (by rw [hk]; decide)]; exact hP, va_K.moved hW.alike hK, hN.warm hW⟩, hS.F ht⟩) hS.2.2 d_Law_hoses_20)
theorem kv_trapped (x : ST) (a1 : Int32) : k_Plan_trapped x a1 = 0 ∨ k_Plan_trapped x a1 = 2 := by
  unfold k_Plan_trapped
  repeat' split
  all_goals first | exact (Or.inl rfl) | exact (Or.inr rfl)
def hv_trapped (x : ST) (a1 : Int32) : Int32 := if k_Plan_trapped x a1 = 0 then 0 else  1
def hs_trapped (x : ST) (a1 : Int32) : ST := if k_Plan_trapped x a1 = 0 then (g_Plan_trapped x a1).2 else x
def ho_trapped (x : ST) (a1 : Int32) (fo : Nat → Int64) : Nat → Int64 := if k_Plan_trapped x a1 = 0 then vp_updL fo (0 : Int32).toNatClampNeg (((g_Plan_trapped x a1).1).toInt64) else fo
set_option maxHeartbeats 400000 in
set_option maxRecDepth 100000 in
theorem h_trapped (l : Launch) (htr : l.stackTraces = false) (dC : Nat → ClassId) (dI : Nat → Nat → Nat) (cI cZ cL : ClassId) (ad : Nat → Nat) (hj : aInj 30 ad) (x : ST) (hI : CIn x) (fo : Nat → Int64) (sz : Nat) (a1 : Int32) : MX l y_Law_trapped (Cond.codeWith y_Law_trapped b_Law_trapped 4 (some .int) [(0, 9, 12, 15)] :: BW) { frames := 8, cells := 1, slots := 6, locals := 162 } (PL sz (dC, dI) [(cI, .int), (cZ, .boolean), (cL, .long)] (wL cI cZ cL ad x fo) [.ref (ad 0), .int a1, .ref (ad 29)]) (UQ (some (.int (hv_trapped x a1))) (WB (dC, dI) [(cI, .int), (cZ, .boolean), (cL, .long)] (wL cI cZ cL ad (hs_trapped x a1) (ho_trapped x a1 fo))) (aC 30 ad sz)) 1 6 (aC 30 ad sz) := by
  refine MX.ofWith (cc := b_Law_trapped) (maxL := 4) (ret := some .int) (hs := [(0, 9, 12, 15)]) (by decide) rfl ?_
  intro p e s m args below meth c s₁ B hml htab hv
  obtain ⟨hE, hsz, rfl, hP, hK, hN⟩ := hv
  subst hsz
  have hx := B.exec
  have hb := B.bytes
  have hr := B.returns
  have hts := atoms_spec (ws := Cond.codeWith y_Law_trapped b_Law_trapped 4 (some .int) [(0, 9, 12, 15)] :: BW) B.pre
  have hbw : ∀ w ∈ BW, w.before ([.ref (ad 0), .int a1, .ref (ad 29)]).toArray s = true := fun w h => hts w (List.mem_cons_of_mem _ h)
  have hown : s.vm.findClass "PlanRowsLaw" = some m.cls := findClass_of_methodNamed B.named
  have hlocks := B.notSynchronized
  have hK2 : va_K (dC, dI) clsA [(cI, .int), (cZ, .boolean)] s := hK.sub [0, 1] rfl
  have hPc := wL_C hP
  have hDx : ∀ z f, va_D (aC 30 ad s.heap.size) (wL cI cZ cL ad z f) := fun z f => w_D hj (wL_ad cI cZ cL ad z f) _
  have hS : va_S (aC 30 ad s.heap.size) s.heap s.heap [] := va_S.rf
  have hl := lv_entry ([.ref (ad 0), .int a1, .ref (ad 29)]) (n := 4) (Nat.le_of_ble_eq_true rfl)
  rw [lg_entry_eq]
  generalize (lg_sl ([.ref (ad 0), .int a1, .ref (ad 29)]) ++ List.replicate (4 - (lg_sl ([.ref (ad 0), .int a1, .ref (ad 29)])).length) Slot.unset).toArray = ls at hl ⊢
  have hl : lv_has ls 4 [(0, .ref (ad 0)), (1, .int a1), (2, .ref (ad 29))] := hl
  refine lv_aload_n hx hb d_Law_trapped_0 rfl (lv_at hl 2 rfl) ?_
  refine lv_iconst (v := 0) hx hb d_Law_trapped_1 (by decide) ?_
  refine lv_aload_n hx hb d_Law_trapped_2 rfl (lv_at hl 0 rfl) ?_
  refine lv_iload_n hx hb d_Law_trapped_3 rfl (lv_at hl 1 rfl) ?_
  rcases kv_trapped x a1 with hk | hk
  · refine x_upd (x_runV (C := "PlanRows") (b := ad 0) (As := [.int a1]) (rest := [.int 0, .ref (ad 29)]) ⟨hx, hb, hml, hown, hts⟩ (u_Plan_trapped l dC dI cI cZ ad (aInj_29 hj) x hI s.heap.size a1 hk) (cw_Law_47 hts rfl rfl ⟨Nat.le_of_ble_eq_true rfl, Nat.le_of_ble_eq_true rfl⟩) ⟨PCZ.blind, va_recv hK2 hPc (ci := 8) (q0 := 0) rfl rfl, PCZ.at hK2 hN hPc⟩ rfl rfl hl.1 rfl (lv_room (Nat.le_of_ble_eq_true rfl)) d_Law_trapped_4 ⟨Nat.zero_le _, Nat.zero_le _⟩) hS (fun q _ h => aC_29 q h) (fun q h => aC_29 q h) (fun t H locs ht hW hB hz1 hk1 hS => ?_)
    obtain ⟨hP1, -, -⟩ := hB
    rw [ht] at hP1
    have hP := wL_join hP hP1 (wL_out hj hP hk1)
    refine lv_i2l hx hb d_Law_trapped_7 rfl ?_
    have hD := hDx ((g_Plan_trapped x a1).2) fo
    refine va_last hx hb hK hP hD hS 29 2 rfl rfl in01 d_Law_trapped_8 (fun H locs hP hD hS => ?_)
    rw [wL_set] at hP
    refine lv_goto (tgt := 15) hx hb d_Law_trapped_9 (by decide) ?_
    refine lv_iconst (v := 0) hx hb d_Law_trapped_15 (by decide) ?_
    refine W.widen (k := 1) (n := 6) (by omega) (by omega) ?_
    exact W.toX (W.iret (v := 0) hx hb hr (fun t ht hW => ⟨by rw [show hv_trapped x a1 = 0 from if_pos hk], ⟨by rw [ht, show hs_trapped x a1 = (g_Plan_trapped x a1).2 from if_pos hk, show ho_trapped x a1 fo = vp_updL fo (0 : Int32).toNatClampNeg (((g_Plan_trapped x a1).1).toInt64) from if_pos hk]; exact hP, va_K.moved hW.alike hK, hN.warm hW⟩, hS.F ht⟩) hS.2.2 d_Law_trapped_16)
  · have htq := t_Plan_trapped l htr dC dI cI cZ ad x hI a1 (by rw [hk]; decide)
    rw [hk] at htq
    refine x_caught (ns := [xnm 2]) (hpc := 12) (x_runV (C := "PlanRows") (b := ad 0) (As := [.int a1]) (rest := [.int 0, .ref (ad 29)]) ⟨hx, hb, hml, hown, hts⟩ htq (cw_Law_47 hts rfl rfl ⟨Nat.le_of_ble_eq_true rfl, Nat.le_of_ble_eq_true rfl⟩) ⟨PX.blind, va_recv hK2 hPc (ci := 8) (q0 := 0) rfl rfl, PX.at hE.1 hK2 hN hPc⟩ rfl rfl hl.1 rfl (lv_room (Nat.le_of_ble_eq_true rfl)) d_Law_trapped_4 ⟨Nat.le_of_ble_eq_true rfl, Nat.le_of_ble_eq_true rfl⟩) hown htab ⟨by decide, by decide, by decide, hbw _ w_227, Or.inl ⟨xn_cast hE.1 (by decide) (by decide), rfl⟩⟩ (fun xq H hz1 hk1 => ?_)
    have hP := wL_kept hP hk1
    have hS : va_S (aC 30 ad s.heap.size) s.heap H [] := ⟨hz1, fun q h1 _ => hk1 q h1, fun q hq => by cases hq⟩
    refine lv_astore_n (lv' := [(3, .ref xq), (0, .ref (ad 0)), (1, .int a1), (2, .ref (ad 29))]) hx hb d_Law_trapped_12 rfl hl (by decide) rfl (fun ls hl => ?_)
    refine lv_iconst (v := 1) hx hb d_Law_trapped_13 (by decide) ?_
    refine W.widen (k := 1) (n := 6) (by omega) (by omega) ?_
    exact W.toX (W.iret (v := 1) hx hb hr (fun t ht hW => ⟨by rw [show hv_trapped x a1 = 1 from by unfold hv_trapped; rw [hk]; rfl], ⟨by rw [ht, show hs_trapped x a1 = x from if_neg (by rw [hk]; decide), show ho_trapped x a1 fo = fo from if_neg (by rw [hk]; decide)]; exact hP, va_K.moved hW.alike hK, hN.warm hW⟩, hS.F ht⟩) hS.2.2 d_Law_trapped_14)
theorem kv_missing (x : ST) (a1 : Int32) : k_Plan_missing x a1 = 0 ∨ k_Plan_missing x a1 = 2 := by
  unfold k_Plan_missing
  repeat' split
  all_goals first | exact (Or.inl rfl) | exact (Or.inr rfl)
def hv_missing (x : ST) (a1 : Int32) : Int32 := if k_Plan_missing x a1 = 0 then 0 else  1
def hs_missing (x : ST) (a1 : Int32) : ST := if k_Plan_missing x a1 = 0 then x else x
def ho_missing (x : ST) (a1 : Int32) (fo : Nat → Int64) : Nat → Int64 := if k_Plan_missing x a1 = 0 then vp_updL fo (0 : Int32).toNatClampNeg ((f_Plan_missing x a1).toInt64) else fo
set_option maxHeartbeats 400000 in
set_option maxRecDepth 100000 in
theorem h_missing (l : Launch) (htr : l.stackTraces = false) (dC : Nat → ClassId) (dI : Nat → Nat → Nat) (cI cZ cL : ClassId) (ad : Nat → Nat) (hj : aInj 30 ad) (x : ST) (hI : CIn x) (fo : Nat → Int64) (sz : Nat) (a1 : Int32) : MX l y_Law_missing (Cond.codeWith y_Law_missing b_Law_missing 4 (some .int) [(0, 9, 12, 15)] :: BW) { frames := 8, cells := 1, slots := 6, locals := 125 } (PL sz (dC, dI) [(cI, .int), (cZ, .boolean), (cL, .long)] (wL cI cZ cL ad x fo) [.ref (ad 0), .int a1, .ref (ad 29)]) (UQ (some (.int (hv_missing x a1))) (WB (dC, dI) [(cI, .int), (cZ, .boolean), (cL, .long)] (wL cI cZ cL ad (hs_missing x a1) (ho_missing x a1 fo))) (aC 30 ad sz)) 1 6 (aC 30 ad sz) := by
  refine MX.ofWith (cc := b_Law_missing) (maxL := 4) (ret := some .int) (hs := [(0, 9, 12, 15)]) (by decide) rfl ?_
  intro p e s m args below meth c s₁ B hml htab hv
  obtain ⟨hE, hsz, rfl, hP, hK, hN⟩ := hv
  subst hsz
  have hx := B.exec
  have hb := B.bytes
  have hr := B.returns
  have hts := atoms_spec (ws := Cond.codeWith y_Law_missing b_Law_missing 4 (some .int) [(0, 9, 12, 15)] :: BW) B.pre
  have hbw : ∀ w ∈ BW, w.before ([.ref (ad 0), .int a1, .ref (ad 29)]).toArray s = true := fun w h => hts w (List.mem_cons_of_mem _ h)
  have hown : s.vm.findClass "PlanRowsLaw" = some m.cls := findClass_of_methodNamed B.named
  have hlocks := B.notSynchronized
  have hK2 : va_K (dC, dI) clsA [(cI, .int), (cZ, .boolean)] s := hK.sub [0, 1] rfl
  have hPc := wL_C hP
  have hDx : ∀ z f, va_D (aC 30 ad s.heap.size) (wL cI cZ cL ad z f) := fun z f => w_D hj (wL_ad cI cZ cL ad z f) _
  have hS : va_S (aC 30 ad s.heap.size) s.heap s.heap [] := va_S.rf
  have hl := lv_entry ([.ref (ad 0), .int a1, .ref (ad 29)]) (n := 4) (Nat.le_of_ble_eq_true rfl)
  rw [lg_entry_eq]
  generalize (lg_sl ([.ref (ad 0), .int a1, .ref (ad 29)]) ++ List.replicate (4 - (lg_sl ([.ref (ad 0), .int a1, .ref (ad 29)])).length) Slot.unset).toArray = ls at hl ⊢
  have hl : lv_has ls 4 [(0, .ref (ad 0)), (1, .int a1), (2, .ref (ad 29))] := hl
  refine lv_aload_n hx hb d_Law_missing_0 rfl (lv_at hl 2 rfl) ?_
  refine lv_iconst (v := 0) hx hb d_Law_missing_1 (by decide) ?_
  refine lv_aload_n hx hb d_Law_missing_2 rfl (lv_at hl 0 rfl) ?_
  refine lv_iload_n hx hb d_Law_missing_3 rfl (lv_at hl 1 rfl) ?_
  rcases kv_missing x a1 with hk | hk
  · refine x_pure (x_runV (C := "PlanRows") (b := ad 0) (As := [.int a1]) (rest := [.int 0, .ref (ad 29)]) ⟨hx, hb, hml, hown, hts⟩ (c_Plan_missing l dC dI cI cZ ad x hI a1 hk) (cw_Law_50 hts rfl rfl ⟨Nat.le_of_ble_eq_true rfl, Nat.le_of_ble_eq_true rfl⟩) ⟨PC.blind, va_recv hK2 hPc (ci := 8) (q0 := 0) rfl rfl, PC.at hK2 hN hPc⟩ rfl rfl hl.1 rfl (lv_room (Nat.le_of_ble_eq_true rfl)) d_Law_missing_4 ⟨Nat.zero_le _, Nat.zero_le _⟩) ?_
    refine lv_i2l hx hb d_Law_missing_7 rfl ?_
    have hD := hDx x fo
    refine va_last hx hb hK hP hD hS 29 2 rfl rfl in01 d_Law_missing_8 (fun H locs hP hD hS => ?_)
    rw [wL_set] at hP
    refine lv_goto (tgt := 15) hx hb d_Law_missing_9 (by decide) ?_
    refine lv_iconst (v := 0) hx hb d_Law_missing_15 (by decide) ?_
    refine W.widen (k := 1) (n := 6) (by omega) (by omega) ?_
    exact W.toX (W.iret (v := 0) hx hb hr (fun t ht hW => ⟨by rw [show hv_missing x a1 = 0 from if_pos hk], ⟨by rw [ht, show hs_missing x a1 = x from if_pos hk, show ho_missing x a1 fo = vp_updL fo (0 : Int32).toNatClampNeg ((f_Plan_missing x a1).toInt64) from if_pos hk]; exact hP, va_K.moved hW.alike hK, hN.warm hW⟩, hS.F ht⟩) hS.2.2 d_Law_missing_16)
  · have htq := t_Plan_missing l htr dC dI cI cZ ad x hI a1 (by rw [hk]; decide)
    rw [hk] at htq
    refine x_caught (ns := [xnm 2]) (hpc := 12) (x_runV (C := "PlanRows") (b := ad 0) (As := [.int a1]) (rest := [.int 0, .ref (ad 29)]) ⟨hx, hb, hml, hown, hts⟩ htq (cw_Law_50 hts rfl rfl ⟨Nat.le_of_ble_eq_true rfl, Nat.le_of_ble_eq_true rfl⟩) ⟨PX.blind, va_recv hK2 hPc (ci := 8) (q0 := 0) rfl rfl, PX.at hE.1 hK2 hN hPc⟩ rfl rfl hl.1 rfl (lv_room (Nat.le_of_ble_eq_true rfl)) d_Law_missing_4 ⟨Nat.le_of_ble_eq_true rfl, Nat.le_of_ble_eq_true rfl⟩) hown htab ⟨by decide, by decide, by decide, hbw _ w_227, Or.inl ⟨xn_cast hE.1 (by decide) (by decide), rfl⟩⟩ (fun xq H hz1 hk1 => ?_)
    have hP := wL_kept hP hk1
    have hS : va_S (aC 30 ad s.heap.size) s.heap H [] := ⟨hz1, fun q h1 _ => hk1 q h1, fun q hq => by cases hq⟩
    refine lv_astore_n (lv' := [(3, .ref xq), (0, .ref (ad 0)), (1, .int a1), (2, .ref (ad 29))]) hx hb d_Law_missing_12 rfl hl (by decide) rfl (fun ls hl => ?_)
    refine lv_iconst (v := 1) hx hb d_Law_missing_13 (by decide) ?_
    refine W.widen (k := 1) (n := 6) (by omega) (by omega) ?_
    exact W.toX (W.iret (v := 1) hx hb hr (fun t ht hW => ⟨by rw [show hv_missing x a1 = 1 from by unfold hv_missing; rw [hk]; rfl], ⟨by rw [ht, show hs_missing x a1 = x from if_neg (by rw [hk]; decide), show ho_missing x a1 fo = fo from if_neg (by rw [hk]; decide)]; exact hP, va_K.moved hW.alike hK, hN.warm hW⟩, hS.F ht⟩) hS.2.2 d_Law_missing_14)
theorem kv_detector (x : ST) (a1 a2 a3 : Int32) : k_Plan_detector x a1 a2 a3 = 0 ∨ k_Plan_detector x a1 a2 a3 = 1 ∨ k_Plan_detector x a1 a2 a3 = 2 ∨ k_Plan_detector x a1 a2 a3 = 3 ∨ k_Plan_detector x a1 a2 a3 = 4 := by
  unfold k_Plan_detector
  repeat' split
  all_goals first | exact (Or.inl rfl) | exact (Or.inr (Or.inl rfl)) | exact (Or.inr (Or.inr (Or.inl rfl))) | exact (Or.inr (Or.inr (Or.inr (Or.inl rfl)))) | exact (Or.inr (Or.inr (Or.inr (Or.inr rfl))))
def hv_detector (x : ST) (a1 a2 a3 : Int32) : Int32 := if k_Plan_detector x a1 a2 a3 = 0 then 0 else if k_Plan_detector x a1 a2 a3 = 1 then 1 else if k_Plan_detector x a1 a2 a3 = 2 then 2 else if k_Plan_detector x a1 a2 a3 = 3 then 3 else 4
def hs_detector (x : ST) (a1 a2 a3 : Int32) : ST := if k_Plan_detector x a1 a2 a3 = 0 then (g_Plan_detector x a1 a2 a3).2 else x
set_option maxHeartbeats 400000 in
set_option maxRecDepth 100000 in
theorem h_detector (l : Launch) (htr : l.stackTraces = false) (dC : Nat → ClassId) (dI : Nat → Nat → Nat) (cI cZ cL : ClassId) (ad : Nat → Nat) (hj : aInj 30 ad) (x : ST) (hI : CIn x) (fo : Nat → Int64) (sz : Nat) (a1 a2 a3 : Int32) : MX l y_Law_detector (Cond.codeWith y_Law_detector b_Law_detector 5 (some .int) [(0, 7, 10, 13), (0, 7, 14, 15), (0, 7, 18, 23), (0, 7, 22, 17)] :: BW) { frames := 8, cells := 1, slots := 6, locals := 127 } (PL sz (dC, dI) [(cI, .int), (cZ, .boolean), (cL, .long)] (wL cI cZ cL ad x fo) [.ref (ad 0), .int a1, .int a2, .int a3]) (UQ (some (.int (hv_detector x a1 a2 a3))) (WB (dC, dI) [(cI, .int), (cZ, .boolean), (cL, .long)] (wL cI cZ cL ad (hs_detector x a1 a2 a3) fo)) (aC 30 ad sz)) 1 6 (aC 30 ad sz) := by
  refine MX.ofWith (cc := b_Law_detector) (maxL := 5) (ret := some .int) (hs := [(0, 7, 10, 13), (0, 7, 14, 15), (0, 7, 18, 23), (0, 7, 22, 17)]) (by decide) rfl ?_
  intro p e s m args below meth c s₁ B hml htab hv
  obtain ⟨hE, hsz, rfl, hP, hK, hN⟩ := hv
  subst hsz
  have hx := B.exec
  have hb := B.bytes
  have hr := B.returns
  have hts := atoms_spec (ws := Cond.codeWith y_Law_detector b_Law_detector 5 (some .int) [(0, 7, 10, 13), (0, 7, 14, 15), (0, 7, 18, 23), (0, 7, 22, 17)] :: BW) B.pre
  have hbw : ∀ w ∈ BW, w.before ([.ref (ad 0), .int a1, .int a2, .int a3]).toArray s = true := fun w h => hts w (List.mem_cons_of_mem _ h)
  have hown : s.vm.findClass "PlanRowsLaw" = some m.cls := findClass_of_methodNamed B.named
  have hlocks := B.notSynchronized
  have hK2 : va_K (dC, dI) clsA [(cI, .int), (cZ, .boolean)] s := hK.sub [0, 1] rfl
  have hPc := wL_C hP
  have hDx : ∀ z f, va_D (aC 30 ad s.heap.size) (wL cI cZ cL ad z f) := fun z f => w_D hj (wL_ad cI cZ cL ad z f) _
  have hS : va_S (aC 30 ad s.heap.size) s.heap s.heap [] := va_S.rf
  have hl := lv_entry ([.ref (ad 0), .int a1, .int a2, .int a3]) (n := 5) (Nat.le_of_ble_eq_true rfl)
  rw [lg_entry_eq]
  generalize (lg_sl ([.ref (ad 0), .int a1, .int a2, .int a3]) ++ List.replicate (5 - (lg_sl ([.ref (ad 0), .int a1, .int a2, .int a3])).length) Slot.unset).toArray = ls at hl ⊢
  have hl : lv_has ls 5 [(0, .ref (ad 0)), (1, .int a1), (2, .int a2), (3, .int a3)] := hl
  refine lv_aload_n hx hb d_Law_detector_0 rfl (lv_at hl 0 rfl) ?_
  refine lv_iload_n hx hb d_Law_detector_1 rfl (lv_at hl 1 rfl) ?_
  refine lv_iload_n hx hb d_Law_detector_2 rfl (lv_at hl 2 rfl) ?_
  refine lv_iload_n hx hb d_Law_detector_3 rfl (lv_at hl 3 rfl) ?_
  rcases kv_detector x a1 a2 a3 with hk | hk | hk | hk | hk
  · refine x_upd (x_runV (C := "PlanRows") (b := ad 0) (As := [.int a1, .int a2, .int a3]) (rest := []) ⟨hx, hb, hml, hown, hts⟩ (u_Plan_detector l dC dI cI cZ ad (aInj_29 hj) x hI s.heap.size a1 a2 a3 hk) (cw_Law_53 hts rfl rfl ⟨Nat.le_of_ble_eq_true rfl, Nat.le_of_ble_eq_true rfl⟩) ⟨PCZ.blind, va_recv hK2 hPc (ci := 8) (q0 := 0) rfl rfl, PCZ.at hK2 hN hPc⟩ rfl rfl hl.1 rfl (lv_room (Nat.le_of_ble_eq_true rfl)) d_Law_detector_4 ⟨Nat.zero_le _, Nat.zero_le _⟩) hS (fun q _ h => aC_29 q h) (fun q h => aC_29 q h) (fun t H locs ht hW hB hz1 hk1 hS => ?_)
    obtain ⟨hP1, -, -⟩ := hB
    rw [ht] at hP1
    have hP := wL_join hP hP1 (wL_out hj hP hk1)
    refine lv_goto (tgt := 26) hx hb d_Law_detector_7 (by decide) ?_
    refine lv_iconst (v := 0) hx hb d_Law_detector_26 (by decide) ?_
    refine W.widen (k := 1) (n := 6) (by omega) (by omega) ?_
    exact W.toX (W.iret (v := 0) hx hb hr (fun t ht hW => ⟨by rw [show hv_detector x a1 a2 a3 = 0 from if_pos hk], ⟨by rw [ht, show hs_detector x a1 a2 a3 = (g_Plan_detector x a1 a2 a3).2 from if_pos hk]; exact hP, va_K.moved hW.alike hK, hN.warm hW⟩, hS.F ht⟩) hS.2.2 d_Law_detector_27)
  · have htq := t_Plan_detector l htr dC dI cI cZ ad x hI a1 a2 a3 (by rw [hk]; decide)
    rw [hk] at htq
    refine x_caught (ns := [xnm 1, xnm 2, xnm 3, xnm 4]) (hpc := 10) (x_runV (C := "PlanRows") (b := ad 0) (As := [.int a1, .int a2, .int a3]) (rest := []) ⟨hx, hb, hml, hown, hts⟩ htq (cw_Law_53 hts rfl rfl ⟨Nat.le_of_ble_eq_true rfl, Nat.le_of_ble_eq_true rfl⟩) ⟨PX.blind, va_recv hK2 hPc (ci := 8) (q0 := 0) rfl rfl, PX.at hE.1 hK2 hN hPc⟩ rfl rfl hl.1 rfl (lv_room (Nat.le_of_ble_eq_true rfl)) d_Law_detector_4 ⟨Nat.le_of_ble_eq_true rfl, Nat.le_of_ble_eq_true rfl⟩) hown htab ⟨by decide, by decide, by decide, hbw _ w_226, Or.inl ⟨xn_cast hE.1 (by decide) (by decide), rfl⟩⟩ (fun xq H hz1 hk1 => ?_)
    have hP := wL_kept hP hk1
    have hS : va_S (aC 30 ad s.heap.size) s.heap H [] := ⟨hz1, fun q h1 _ => hk1 q h1, fun q hq => by cases hq⟩
    refine lv_astore (lv' := [(4, .ref xq), (0, .ref (ad 0)), (1, .int a1), (2, .int a2), (3, .int a3)]) hx hb d_Law_detector_10 hl (by decide) rfl (fun ls hl => ?_)
    refine lv_iconst (v := 1) hx hb d_Law_detector_12 (by decide) ?_
    refine W.widen (k := 1) (n := 6) (by omega) (by omega) ?_
    exact W.toX (W.iret (v := 1) hx hb hr (fun t ht hW => ⟨by rw [show hv_detector x a1 a2 a3 = 1 from by unfold hv_detector; rw [hk]; rfl], ⟨by rw [ht, show hs_detector x a1 a2 a3 = x from if_neg (by rw [hk]; decide)]; exact hP, va_K.moved hW.alike hK, hN.warm hW⟩, hS.F ht⟩) hS.2.2 d_Law_detector_13)
  · have htq := t_Plan_detector l htr dC dI cI cZ ad x hI a1 a2 a3 (by rw [hk]; decide)
    rw [hk] at htq
    refine x_caught (ns := [xnm 1, xnm 2, xnm 3, xnm 4]) (hpc := 14) (x_runV (C := "PlanRows") (b := ad 0) (As := [.int a1, .int a2, .int a3]) (rest := []) ⟨hx, hb, hml, hown, hts⟩ htq (cw_Law_53 hts rfl rfl ⟨Nat.le_of_ble_eq_true rfl, Nat.le_of_ble_eq_true rfl⟩) ⟨PX.blind, va_recv hK2 hPc (ci := 8) (q0 := 0) rfl rfl, PX.at hE.1 hK2 hN hPc⟩ rfl rfl hl.1 rfl (lv_room (Nat.le_of_ble_eq_true rfl)) d_Law_detector_4 ⟨Nat.le_of_ble_eq_true rfl, Nat.le_of_ble_eq_true rfl⟩) hown htab ⟨by decide, by decide, by decide, hbw _ w_226, Or.inr ⟨hE.2 2 1 (by decide) (by decide) (by decide) (by decide) (by decide), ⟨by decide, by decide, by decide, hbw _ w_227, Or.inl ⟨xn_cast hE.1 (by decide) (by decide), rfl⟩⟩⟩⟩ (fun xq H hz1 hk1 => ?_)
    have hP := wL_kept hP hk1
    have hS : va_S (aC 30 ad s.heap.size) s.heap H [] := ⟨hz1, fun q h1 _ => hk1 q h1, fun q hq => by cases hq⟩
    refine lv_astore (lv' := [(4, .ref xq), (0, .ref (ad 0)), (1, .int a1), (2, .int a2), (3, .int a3)]) hx hb d_Law_detector_14 hl (by decide) rfl (fun ls hl => ?_)
    refine lv_iconst (v := 2) hx hb d_Law_detector_16 (by decide) ?_
    refine W.widen (k := 1) (n := 6) (by omega) (by omega) ?_
    exact W.toX (W.iret (v := 2) hx hb hr (fun t ht hW => ⟨by rw [show hv_detector x a1 a2 a3 = 2 from by unfold hv_detector; rw [hk]; rfl], ⟨by rw [ht, show hs_detector x a1 a2 a3 = x from if_neg (by rw [hk]; decide)]; exact hP, va_K.moved hW.alike hK, hN.warm hW⟩, hS.F ht⟩) hS.2.2 d_Law_detector_17)
  · have htq := t_Plan_detector l htr dC dI cI cZ ad x hI a1 a2 a3 (by rw [hk]; decide)
    rw [hk] at htq
    refine x_caught (ns := [xnm 1, xnm 2, xnm 3, xnm 4]) (hpc := 18) (x_runV (C := "PlanRows") (b := ad 0) (As := [.int a1, .int a2, .int a3]) (rest := []) ⟨hx, hb, hml, hown, hts⟩ htq (cw_Law_53 hts rfl rfl ⟨Nat.le_of_ble_eq_true rfl, Nat.le_of_ble_eq_true rfl⟩) ⟨PX.blind, va_recv hK2 hPc (ci := 8) (q0 := 0) rfl rfl, PX.at hE.1 hK2 hN hPc⟩ rfl rfl hl.1 rfl (lv_room (Nat.le_of_ble_eq_true rfl)) d_Law_detector_4 ⟨Nat.le_of_ble_eq_true rfl, Nat.le_of_ble_eq_true rfl⟩) hown htab ⟨by decide, by decide, by decide, hbw _ w_226, Or.inr ⟨hE.2 3 1 (by decide) (by decide) (by decide) (by decide) (by decide), ⟨by decide, by decide, by decide, hbw _ w_227, Or.inr ⟨hE.2 3 2 (by decide) (by decide) (by decide) (by decide) (by decide), ⟨by decide, by decide, by decide, hbw _ w_350, Or.inl ⟨xn_cast hE.1 (by decide) (by decide), rfl⟩⟩⟩⟩⟩⟩ (fun xq H hz1 hk1 => ?_)
    have hP := wL_kept hP hk1
    have hS : va_S (aC 30 ad s.heap.size) s.heap H [] := ⟨hz1, fun q h1 _ => hk1 q h1, fun q hq => by cases hq⟩
    refine lv_astore (lv' := [(4, .ref xq), (0, .ref (ad 0)), (1, .int a1), (2, .int a2), (3, .int a3)]) hx hb d_Law_detector_18 hl (by decide) rfl (fun ls hl => ?_)
    refine lv_iconst (v := 3) hx hb d_Law_detector_20 (by decide) ?_
    refine W.widen (k := 1) (n := 6) (by omega) (by omega) ?_
    exact W.toX (W.iret (v := 3) hx hb hr (fun t ht hW => ⟨by rw [show hv_detector x a1 a2 a3 = 3 from by unfold hv_detector; rw [hk]; rfl], ⟨by rw [ht, show hs_detector x a1 a2 a3 = x from if_neg (by rw [hk]; decide)]; exact hP, va_K.moved hW.alike hK, hN.warm hW⟩, hS.F ht⟩) hS.2.2 d_Law_detector_21)
  · have htq := t_Plan_detector l htr dC dI cI cZ ad x hI a1 a2 a3 (by rw [hk]; decide)
    rw [hk] at htq
    refine x_caught (ns := [xnm 1, xnm 2, xnm 3, xnm 4]) (hpc := 22) (x_runV (C := "PlanRows") (b := ad 0) (As := [.int a1, .int a2, .int a3]) (rest := []) ⟨hx, hb, hml, hown, hts⟩ htq (cw_Law_53 hts rfl rfl ⟨Nat.le_of_ble_eq_true rfl, Nat.le_of_ble_eq_true rfl⟩) ⟨PX.blind, va_recv hK2 hPc (ci := 8) (q0 := 0) rfl rfl, PX.at hE.1 hK2 hN hPc⟩ rfl rfl hl.1 rfl (lv_room (Nat.le_of_ble_eq_true rfl)) d_Law_detector_4 ⟨Nat.le_of_ble_eq_true rfl, Nat.le_of_ble_eq_true rfl⟩) hown htab ⟨by decide, by decide, by decide, hbw _ w_226, Or.inr ⟨hE.2 4 1 (by decide) (by decide) (by decide) (by decide) (by decide), ⟨by decide, by decide, by decide, hbw _ w_227, Or.inr ⟨hE.2 4 2 (by decide) (by decide) (by decide) (by decide) (by decide), ⟨by decide, by decide, by decide, hbw _ w_350, Or.inr ⟨hE.2 4 3 (by decide) (by decide) (by decide) (by decide) (by decide), ⟨by decide, by decide, by decide, hbw _ w_228, Or.inl ⟨xn_cast hE.1 (by decide) (by decide), rfl⟩⟩⟩⟩⟩⟩⟩⟩ (fun xq H hz1 hk1 => ?_)
    have hP := wL_kept hP hk1
    have hS : va_S (aC 30 ad s.heap.size) s.heap H [] := ⟨hz1, fun q h1 _ => hk1 q h1, fun q hq => by cases hq⟩
    refine lv_astore (lv' := [(4, .ref xq), (0, .ref (ad 0)), (1, .int a1), (2, .int a2), (3, .int a3)]) hx hb d_Law_detector_22 hl (by decide) rfl (fun ls hl => ?_)
    refine lv_iconst (v := 4) hx hb d_Law_detector_24 (by decide) ?_
    refine W.widen (k := 1) (n := 6) (by omega) (by omega) ?_
    exact W.toX (W.iret (v := 4) hx hb hr (fun t ht hW => ⟨by rw [show hv_detector x a1 a2 a3 = 4 from by unfold hv_detector; rw [hk]; rfl], ⟨by rw [ht, show hs_detector x a1 a2 a3 = x from if_neg (by rw [hk]; decide)]; exact hP, va_K.moved hW.alike hK, hN.warm hW⟩, hS.F ht⟩) hS.2.2 d_Law_detector_25)
theorem kv_alarm (x : ST) (a1 a2 : Int32) : k_Plan_alarm x a1 a2 = 0 ∨ k_Plan_alarm x a1 a2 = 2 := by
  unfold k_Plan_alarm
  repeat' split
  all_goals first | exact (Or.inl rfl) | exact (Or.inr rfl)
def hv_alarm (x : ST) (a1 a2 : Int32) : Int32 := if k_Plan_alarm x a1 a2 = 0 then 0 else  1
def hs_alarm (x : ST) (a1 a2 : Int32) : ST := if k_Plan_alarm x a1 a2 = 0 then x else x
def ho_alarm (x : ST) (a1 a2 : Int32) (fo : Nat → Int64) : Nat → Int64 := if k_Plan_alarm x a1 a2 = 0 then vp_updL fo (0 : Int32).toNatClampNeg ((f_Plan_alarm x a1 a2).toInt64) else fo
set_option maxHeartbeats 400000 in
set_option maxRecDepth 100000 in
theorem h_alarm (l : Launch) (htr : l.stackTraces = false) (dC : Nat → ClassId) (dI : Nat → Nat → Nat) (cI cZ cL : ClassId) (ad : Nat → Nat) (hj : aInj 30 ad) (x : ST) (hI : CIn x) (fo : Nat → Int64) (sz : Nat) (a1 a2 : Int32) : MX l y_Law_alarm (Cond.codeWith y_Law_alarm b_Law_alarm 5 (some .int) [(0, 10, 13, 15)] :: BW) { frames := 8, cells := 1, slots := 6, locals := 127 } (PL sz (dC, dI) [(cI, .int), (cZ, .boolean), (cL, .long)] (wL cI cZ cL ad x fo) [.ref (ad 0), .int a1, .int a2, .ref (ad 29)]) (UQ (some (.int (hv_alarm x a1 a2))) (WB (dC, dI) [(cI, .int), (cZ, .boolean), (cL, .long)] (wL cI cZ cL ad (hs_alarm x a1 a2) (ho_alarm x a1 a2 fo))) (aC 30 ad sz)) 1 6 (aC 30 ad sz) := by
  refine MX.ofWith (cc := b_Law_alarm) (maxL := 5) (ret := some .int) (hs := [(0, 10, 13, 15)]) (by decide) rfl ?_
  intro p e s m args below meth c s₁ B hml htab hv
  obtain ⟨hE, hsz, rfl, hP, hK, hN⟩ := hv
  subst hsz
  have hx := B.exec
  have hb := B.bytes
  have hr := B.returns
  have hts := atoms_spec (ws := Cond.codeWith y_Law_alarm b_Law_alarm 5 (some .int) [(0, 10, 13, 15)] :: BW) B.pre
  have hbw : ∀ w ∈ BW, w.before ([.ref (ad 0), .int a1, .int a2, .ref (ad 29)]).toArray s = true := fun w h => hts w (List.mem_cons_of_mem _ h)
  have hown : s.vm.findClass "PlanRowsLaw" = some m.cls := findClass_of_methodNamed B.named
  have hlocks := B.notSynchronized
  have hK2 : va_K (dC, dI) clsA [(cI, .int), (cZ, .boolean)] s := hK.sub [0, 1] rfl
  have hPc := wL_C hP
  have hDx : ∀ z f, va_D (aC 30 ad s.heap.size) (wL cI cZ cL ad z f) := fun z f => w_D hj (wL_ad cI cZ cL ad z f) _
  have hS : va_S (aC 30 ad s.heap.size) s.heap s.heap [] := va_S.rf
  have hl := lv_entry ([.ref (ad 0), .int a1, .int a2, .ref (ad 29)]) (n := 5) (Nat.le_of_ble_eq_true rfl)
  rw [lg_entry_eq]
  generalize (lg_sl ([.ref (ad 0), .int a1, .int a2, .ref (ad 29)]) ++ List.replicate (5 - (lg_sl ([.ref (ad 0), .int a1, .int a2, .ref (ad 29)])).length) Slot.unset).toArray = ls at hl ⊢
  have hl : lv_has ls 5 [(0, .ref (ad 0)), (1, .int a1), (2, .int a2), (3, .ref (ad 29))] := hl
  refine lv_aload_n hx hb d_Law_alarm_0 rfl (lv_at hl 3 rfl) ?_
  refine lv_iconst (v := 0) hx hb d_Law_alarm_1 (by decide) ?_
  refine lv_aload_n hx hb d_Law_alarm_2 rfl (lv_at hl 0 rfl) ?_
  refine lv_iload_n hx hb d_Law_alarm_3 rfl (lv_at hl 1 rfl) ?_
  refine lv_iload_n hx hb d_Law_alarm_4 rfl (lv_at hl 2 rfl) ?_
  rcases kv_alarm x a1 a2 with hk | hk
  · refine x_pure (x_runV (C := "PlanRows") (b := ad 0) (As := [.int a1, .int a2]) (rest := [.int 0, .ref (ad 29)]) ⟨hx, hb, hml, hown, hts⟩ (c_Plan_alarm l dC dI cI cZ ad x hI a1 a2 hk) (cw_Law_57 hts rfl rfl ⟨Nat.le_of_ble_eq_true rfl, Nat.le_of_ble_eq_true rfl⟩) ⟨PC.blind, va_recv hK2 hPc (ci := 8) (q0 := 0) rfl rfl, PC.at hK2 hN hPc⟩ rfl rfl hl.1 rfl (lv_room (Nat.le_of_ble_eq_true rfl)) d_Law_alarm_5 ⟨Nat.zero_le _, Nat.zero_le _⟩) ?_
    refine lv_i2l hx hb d_Law_alarm_8 rfl ?_
    have hD := hDx x fo
    refine va_last hx hb hK hP hD hS 29 2 rfl rfl in01 d_Law_alarm_9 (fun H locs hP hD hS => ?_)
    rw [wL_set] at hP
    refine lv_goto (tgt := 17) hx hb d_Law_alarm_10 (by decide) ?_
    refine lv_iconst (v := 0) hx hb d_Law_alarm_17 (by decide) ?_
    refine W.widen (k := 1) (n := 6) (by omega) (by omega) ?_
    exact W.toX (W.iret (v := 0) hx hb hr (fun t ht hW => ⟨by rw [show hv_alarm x a1 a2 = 0 from if_pos hk], ⟨by rw [ht, show hs_alarm x a1 a2 = x from if_pos hk, show ho_alarm x a1 a2 fo = vp_updL fo (0 : Int32).toNatClampNeg ((f_Plan_alarm x a1 a2).toInt64) from if_pos hk]; exact hP, va_K.moved hW.alike hK, hN.warm hW⟩, hS.F ht⟩) hS.2.2 d_Law_alarm_18)
  · have htq := t_Plan_alarm l htr dC dI cI cZ ad x hI a1 a2 (by rw [hk]; decide)
    rw [hk] at htq
    refine x_caught (ns := [xnm 2]) (hpc := 13) (x_runV (C := "PlanRows") (b := ad 0) (As := [.int a1, .int a2]) (rest := [.int 0, .ref (ad 29)]) ⟨hx, hb, hml, hown, hts⟩ htq (cw_Law_57 hts rfl rfl ⟨Nat.le_of_ble_eq_true rfl, Nat.le_of_ble_eq_true rfl⟩) ⟨PX.blind, va_recv hK2 hPc (ci := 8) (q0 := 0) rfl rfl, PX.at hE.1 hK2 hN hPc⟩ rfl rfl hl.1 rfl (lv_room (Nat.le_of_ble_eq_true rfl)) d_Law_alarm_5 ⟨Nat.le_of_ble_eq_true rfl, Nat.le_of_ble_eq_true rfl⟩) hown htab ⟨by decide, by decide, by decide, hbw _ w_227, Or.inl ⟨xn_cast hE.1 (by decide) (by decide), rfl⟩⟩ (fun xq H hz1 hk1 => ?_)
    have hP := wL_kept hP hk1
    have hS : va_S (aC 30 ad s.heap.size) s.heap H [] := ⟨hz1, fun q h1 _ => hk1 q h1, fun q hq => by cases hq⟩
    refine lv_astore (lv' := [(4, .ref xq), (0, .ref (ad 0)), (1, .int a1), (2, .int a2), (3, .ref (ad 29))]) hx hb d_Law_alarm_13 hl (by decide) rfl (fun ls hl => ?_)
    refine lv_iconst (v := 1) hx hb d_Law_alarm_15 (by decide) ?_
    refine W.widen (k := 1) (n := 6) (by omega) (by omega) ?_
    exact W.toX (W.iret (v := 1) hx hb hr (fun t ht hW => ⟨by rw [show hv_alarm x a1 a2 = 1 from by unfold hv_alarm; rw [hk]; rfl], ⟨by rw [ht, show hs_alarm x a1 a2 = x from if_neg (by rw [hk]; decide), show ho_alarm x a1 a2 fo = fo from if_neg (by rw [hk]; decide)]; exact hP, va_K.moved hW.alike hK, hN.warm hW⟩, hS.F ht⟩) hS.2.2 d_Law_alarm_16)
theorem kv_people (x : ST) (a1 a2 a3 a4 : Int32) : k_Plan_people x a1 a2 a3 a4 = 0 ∨ k_Plan_people x a1 a2 a3 a4 = 1 ∨ k_Plan_people x a1 a2 a3 a4 = 2 ∨ k_Plan_people x a1 a2 a3 a4 = 4 := by
  unfold k_Plan_people
  repeat' split
  all_goals first | exact (Or.inl rfl) | exact (Or.inr (Or.inl rfl)) | exact (Or.inr (Or.inr (Or.inl rfl))) | exact (Or.inr (Or.inr (Or.inr rfl)))
def hv_people (x : ST) (a1 a2 a3 a4 : Int32) : Int32 := if k_Plan_people x a1 a2 a3 a4 = 0 then 0 else if k_Plan_people x a1 a2 a3 a4 = 1 then 1 else if k_Plan_people x a1 a2 a3 a4 = 2 then 2 else 3
def hs_people (x : ST) (a1 a2 a3 a4 : Int32) : ST := if k_Plan_people x a1 a2 a3 a4 = 0 then (g_Plan_people x a1 a2 a3 a4).2 else x
def ho_people (x : ST) (a1 a2 a3 a4 : Int32) (fo : Nat → Int64) : Nat → Int64 := if k_Plan_people x a1 a2 a3 a4 = 0 then vp_updL fo (0 : Int32).toNatClampNeg (((g_Plan_people x a1 a2 a3 a4).1).toInt64) else fo
set_option maxHeartbeats 400000 in
set_option maxRecDepth 100000 in
theorem h_people (l : Launch) (htr : l.stackTraces = false) (dC : Nat → ClassId) (dI : Nat → Nat → Nat) (cI cZ cL : ClassId) (ad : Nat → Nat) (hj : aInj 30 ad) (x : ST) (hI : CIn x) (fo : Nat → Int64) (sz : Nat) (a1 a2 a3 a4 : Int32) : MX l y_Law_people (Cond.codeWith y_Law_people b_Law_people 7 (some .int) [(0, 14, 17, 13), (0, 14, 21, 15), (0, 14, 25, 17)] :: BW) { frames := 8, cells := 1, slots := 6, locals := 128 } (PL sz (dC, dI) [(cI, .int), (cZ, .boolean), (cL, .long)] (wL cI cZ cL ad x fo) [.ref (ad 0), .int a1, .int a2, .int a3, .int a4, .ref (ad 29)]) (UQ (some (.int (hv_people x a1 a2 a3 a4))) (WB (dC, dI) [(cI, .int), (cZ, .boolean), (cL, .long)] (wL cI cZ cL ad (hs_people x a1 a2 a3 a4) (ho_people x a1 a2 a3 a4 fo))) (aC 30 ad sz)) 1 6 (aC 30 ad sz) := by
  refine MX.ofWith (cc := b_Law_people) (maxL := 7) (ret := some .int) (hs := [(0, 14, 17, 13), (0, 14, 21, 15), (0, 14, 25, 17)]) (by decide) rfl ?_
  intro p e s m args below meth c s₁ B hml htab hv
  obtain ⟨hE, hsz, rfl, hP, hK, hN⟩ := hv
  subst hsz
  have hx := B.exec
  have hb := B.bytes
  have hr := B.returns
  have hts := atoms_spec (ws := Cond.codeWith y_Law_people b_Law_people 7 (some .int) [(0, 14, 17, 13), (0, 14, 21, 15), (0, 14, 25, 17)] :: BW) B.pre
  have hbw : ∀ w ∈ BW, w.before ([.ref (ad 0), .int a1, .int a2, .int a3, .int a4, .ref (ad 29)]).toArray s = true := fun w h => hts w (List.mem_cons_of_mem _ h)
  have hown : s.vm.findClass "PlanRowsLaw" = some m.cls := findClass_of_methodNamed B.named
  have hlocks := B.notSynchronized
  have hK2 : va_K (dC, dI) clsA [(cI, .int), (cZ, .boolean)] s := hK.sub [0, 1] rfl
  have hPc := wL_C hP
  have hDx : ∀ z f, va_D (aC 30 ad s.heap.size) (wL cI cZ cL ad z f) := fun z f => w_D hj (wL_ad cI cZ cL ad z f) _
  have hS : va_S (aC 30 ad s.heap.size) s.heap s.heap [] := va_S.rf
  have hl := lv_entry ([.ref (ad 0), .int a1, .int a2, .int a3, .int a4, .ref (ad 29)]) (n := 7) (Nat.le_of_ble_eq_true rfl)
  rw [lg_entry_eq]
  generalize (lg_sl ([.ref (ad 0), .int a1, .int a2, .int a3, .int a4, .ref (ad 29)]) ++ List.replicate (7 - (lg_sl ([.ref (ad 0), .int a1, .int a2, .int a3, .int a4, .ref (ad 29)])).length) Slot.unset).toArray = ls at hl ⊢
  have hl : lv_has ls 7 [(0, .ref (ad 0)), (1, .int a1), (2, .int a2), (3, .int a3), (4, .int a4), (5, .ref (ad 29))] := hl
  refine lv_aload hx hb d_Law_people_0 (lv_at hl 5 rfl) ?_
  refine lv_iconst (v := 0) hx hb d_Law_people_2 (by decide) ?_
  refine lv_aload_n hx hb d_Law_people_3 rfl (lv_at hl 0 rfl) ?_
  refine lv_iload_n hx hb d_Law_people_4 rfl (lv_at hl 1 rfl) ?_
  refine lv_iload_n hx hb d_Law_people_5 rfl (lv_at hl 2 rfl) ?_
  refine lv_iload_n hx hb d_Law_people_6 rfl (lv_at hl 3 rfl) ?_
  refine lv_iload hx hb d_Law_people_7 (lv_at hl 4 rfl) ?_
  rcases kv_people x a1 a2 a3 a4 with hk | hk | hk | hk
  · refine x_upd (x_runV (C := "PlanRows") (b := ad 0) (As := [.int a1, .int a2, .int a3, .int a4]) (rest := [.int 0, .ref (ad 29)]) ⟨hx, hb, hml, hown, hts⟩ (u_Plan_people l dC dI cI cZ ad (aInj_29 hj) x hI s.heap.size a1 a2 a3 a4 hk) (cw_Law_60 hts rfl rfl ⟨Nat.le_of_ble_eq_true rfl, Nat.le_of_ble_eq_true rfl⟩) ⟨PCZ.blind, va_recv hK2 hPc (ci := 8) (q0 := 0) rfl rfl, PCZ.at hK2 hN hPc⟩ rfl rfl hl.1 rfl (lv_room (Nat.le_of_ble_eq_true rfl)) d_Law_people_9 ⟨Nat.zero_le _, Nat.zero_le _⟩) hS (fun q _ h => aC_29 q h) (fun q h => aC_29 q h) (fun t H locs ht hW hB hz1 hk1 hS => ?_)
    obtain ⟨hP1, -, -⟩ := hB
    rw [ht] at hP1
    have hP := wL_join hP hP1 (wL_out hj hP hk1)
    refine lv_i2l hx hb d_Law_people_12 rfl ?_
    have hD := hDx ((g_Plan_people x a1 a2 a3 a4).2) fo
    refine va_last hx hb hK hP hD hS 29 2 rfl rfl in01 d_Law_people_13 (fun H locs hP hD hS => ?_)
    rw [wL_set] at hP
    refine lv_goto (tgt := 29) hx hb d_Law_people_14 (by decide) ?_
    refine lv_iconst (v := 0) hx hb d_Law_people_29 (by decide) ?_
    refine W.widen (k := 1) (n := 6) (by omega) (by omega) ?_
    exact W.toX (W.iret (v := 0) hx hb hr (fun t ht hW => ⟨by rw [show hv_people x a1 a2 a3 a4 = 0 from if_pos hk], ⟨by rw [ht, show hs_people x a1 a2 a3 a4 = (g_Plan_people x a1 a2 a3 a4).2 from if_pos hk, show ho_people x a1 a2 a3 a4 fo = vp_updL fo (0 : Int32).toNatClampNeg (((g_Plan_people x a1 a2 a3 a4).1).toInt64) from if_pos hk]; exact hP, va_K.moved hW.alike hK, hN.warm hW⟩, hS.F ht⟩) hS.2.2 d_Law_people_30)
  · have htq := t_Plan_people l htr dC dI cI cZ ad x hI a1 a2 a3 a4 (by rw [hk]; decide)
    rw [hk] at htq
    refine x_caught (ns := [xnm 1, xnm 2, xnm 4]) (hpc := 17) (x_runV (C := "PlanRows") (b := ad 0) (As := [.int a1, .int a2, .int a3, .int a4]) (rest := [.int 0, .ref (ad 29)]) ⟨hx, hb, hml, hown, hts⟩ htq (cw_Law_60 hts rfl rfl ⟨Nat.le_of_ble_eq_true rfl, Nat.le_of_ble_eq_true rfl⟩) ⟨PX.blind, va_recv hK2 hPc (ci := 8) (q0 := 0) rfl rfl, PX.at hE.1 hK2 hN hPc⟩ rfl rfl hl.1 rfl (lv_room (Nat.le_of_ble_eq_true rfl)) d_Law_people_9 ⟨Nat.le_of_ble_eq_true rfl, Nat.le_of_ble_eq_true rfl⟩) hown htab ⟨by decide, by decide, by decide, hbw _ w_226, Or.inl ⟨xn_cast hE.1 (by decide) (by decide), rfl⟩⟩ (fun xq H hz1 hk1 => ?_)
    have hP := wL_kept hP hk1
    have hS : va_S (aC 30 ad s.heap.size) s.heap H [] := ⟨hz1, fun q h1 _ => hk1 q h1, fun q hq => by cases hq⟩
    refine lv_astore (lv' := [(6, .ref xq), (0, .ref (ad 0)), (1, .int a1), (2, .int a2), (3, .int a3), (4, .int a4), (5, .ref (ad 29))]) hx hb d_Law_people_17 hl (by decide) rfl (fun ls hl => ?_)
    refine lv_iconst (v := 1) hx hb d_Law_people_19 (by decide) ?_
    refine W.widen (k := 1) (n := 6) (by omega) (by omega) ?_
    exact W.toX (W.iret (v := 1) hx hb hr (fun t ht hW => ⟨by rw [show hv_people x a1 a2 a3 a4 = 1 from by unfold hv_people; rw [hk]; rfl], ⟨by rw [ht, show hs_people x a1 a2 a3 a4 = x from if_neg (by rw [hk]; decide), show ho_people x a1 a2 a3 a4 fo = fo from if_neg (by rw [hk]; decide)]; exact hP, va_K.moved hW.alike hK, hN.warm hW⟩, hS.F ht⟩) hS.2.2 d_Law_people_20)
  · have htq := t_Plan_people l htr dC dI cI cZ ad x hI a1 a2 a3 a4 (by rw [hk]; decide)
    rw [hk] at htq
    refine x_caught (ns := [xnm 1, xnm 2, xnm 4]) (hpc := 21) (x_runV (C := "PlanRows") (b := ad 0) (As := [.int a1, .int a2, .int a3, .int a4]) (rest := [.int 0, .ref (ad 29)]) ⟨hx, hb, hml, hown, hts⟩ htq (cw_Law_60 hts rfl rfl ⟨Nat.le_of_ble_eq_true rfl, Nat.le_of_ble_eq_true rfl⟩) ⟨PX.blind, va_recv hK2 hPc (ci := 8) (q0 := 0) rfl rfl, PX.at hE.1 hK2 hN hPc⟩ rfl rfl hl.1 rfl (lv_room (Nat.le_of_ble_eq_true rfl)) d_Law_people_9 ⟨Nat.le_of_ble_eq_true rfl, Nat.le_of_ble_eq_true rfl⟩) hown htab ⟨by decide, by decide, by decide, hbw _ w_226, Or.inr ⟨hE.2 2 1 (by decide) (by decide) (by decide) (by decide) (by decide), ⟨by decide, by decide, by decide, hbw _ w_227, Or.inl ⟨xn_cast hE.1 (by decide) (by decide), rfl⟩⟩⟩⟩ (fun xq H hz1 hk1 => ?_)
    have hP := wL_kept hP hk1
    have hS : va_S (aC 30 ad s.heap.size) s.heap H [] := ⟨hz1, fun q h1 _ => hk1 q h1, fun q hq => by cases hq⟩
    refine lv_astore (lv' := [(6, .ref xq), (0, .ref (ad 0)), (1, .int a1), (2, .int a2), (3, .int a3), (4, .int a4), (5, .ref (ad 29))]) hx hb d_Law_people_21 hl (by decide) rfl (fun ls hl => ?_)
    refine lv_iconst (v := 2) hx hb d_Law_people_23 (by decide) ?_
    refine W.widen (k := 1) (n := 6) (by omega) (by omega) ?_
    exact W.toX (W.iret (v := 2) hx hb hr (fun t ht hW => ⟨by rw [show hv_people x a1 a2 a3 a4 = 2 from by unfold hv_people; rw [hk]; rfl], ⟨by rw [ht, show hs_people x a1 a2 a3 a4 = x from if_neg (by rw [hk]; decide), show ho_people x a1 a2 a3 a4 fo = fo from if_neg (by rw [hk]; decide)]; exact hP, va_K.moved hW.alike hK, hN.warm hW⟩, hS.F ht⟩) hS.2.2 d_Law_people_24)
  · have htq := t_Plan_people l htr dC dI cI cZ ad x hI a1 a2 a3 a4 (by rw [hk]; decide)
    rw [hk] at htq
    refine x_caught (ns := [xnm 1, xnm 2, xnm 4]) (hpc := 25) (x_runV (C := "PlanRows") (b := ad 0) (As := [.int a1, .int a2, .int a3, .int a4]) (rest := [.int 0, .ref (ad 29)]) ⟨hx, hb, hml, hown, hts⟩ htq (cw_Law_60 hts rfl rfl ⟨Nat.le_of_ble_eq_true rfl, Nat.le_of_ble_eq_true rfl⟩) ⟨PX.blind, va_recv hK2 hPc (ci := 8) (q0 := 0) rfl rfl, PX.at hE.1 hK2 hN hPc⟩ rfl rfl hl.1 rfl (lv_room (Nat.le_of_ble_eq_true rfl)) d_Law_people_9 ⟨Nat.le_of_ble_eq_true rfl, Nat.le_of_ble_eq_true rfl⟩) hown htab ⟨by decide, by decide, by decide, hbw _ w_226, Or.inr ⟨hE.2 4 1 (by decide) (by decide) (by decide) (by decide) (by decide), ⟨by decide, by decide, by decide, hbw _ w_227, Or.inr ⟨hE.2 4 2 (by decide) (by decide) (by decide) (by decide) (by decide), ⟨by decide, by decide, by decide, hbw _ w_228, Or.inl ⟨xn_cast hE.1 (by decide) (by decide), rfl⟩⟩⟩⟩⟩⟩ (fun xq H hz1 hk1 => ?_)
    have hP := wL_kept hP hk1
    have hS : va_S (aC 30 ad s.heap.size) s.heap H [] := ⟨hz1, fun q h1 _ => hk1 q h1, fun q hq => by cases hq⟩
    refine lv_astore (lv' := [(6, .ref xq), (0, .ref (ad 0)), (1, .int a1), (2, .int a2), (3, .int a3), (4, .int a4), (5, .ref (ad 29))]) hx hb d_Law_people_25 hl (by decide) rfl (fun ls hl => ?_)
    refine lv_iconst (v := 3) hx hb d_Law_people_27 (by decide) ?_
    refine W.widen (k := 1) (n := 6) (by omega) (by omega) ?_
    exact W.toX (W.iret (v := 3) hx hb hr (fun t ht hW => ⟨by rw [show hv_people x a1 a2 a3 a4 = 3 from by unfold hv_people; rw [hk]; rfl], ⟨by rw [ht, show hs_people x a1 a2 a3 a4 = x from if_neg (by rw [hk]; decide), show ho_people x a1 a2 a3 a4 fo = fo from if_neg (by rw [hk]; decide)]; exact hP, va_K.moved hW.alike hK, hN.warm hW⟩, hS.F ht⟩) hS.2.2 d_Law_people_28)
theorem kv_inside (x : ST) (a1 a2 : Int32) : k_Plan_inside x a1 a2 = 0 ∨ k_Plan_inside x a1 a2 = 1 ∨ k_Plan_inside x a1 a2 = 2 := by
  unfold k_Plan_inside
  repeat' split
  all_goals first | exact (Or.inl rfl) | exact (Or.inr (Or.inl rfl)) | exact (Or.inr (Or.inr rfl))
def hv_inside (x : ST) (a1 a2 : Int32) : Int32 := if k_Plan_inside x a1 a2 = 0 then 0 else if k_Plan_inside x a1 a2 = 1 then 1 else 2
def hs_inside (x : ST) (a1 a2 : Int32) : ST := if k_Plan_inside x a1 a2 = 0 then x else x
def ho_inside (x : ST) (a1 a2 : Int32) (fo : Nat → Int64) : Nat → Int64 := if k_Plan_inside x a1 a2 = 0 then vp_updL fo (0 : Int32).toNatClampNeg ((f_Plan_inside x a1 a2).toInt64) else fo
set_option maxHeartbeats 400000 in
set_option maxRecDepth 100000 in
theorem h_inside (l : Launch) (htr : l.stackTraces = false) (dC : Nat → ClassId) (dI : Nat → Nat → Nat) (cI cZ cL : ClassId) (ad : Nat → Nat) (hj : aInj 30 ad) (x : ST) (hI : CIn x) (fo : Nat → Int64) (sz : Nat) (a1 a2 : Int32) : MX l y_Law_inside (Cond.codeWith y_Law_inside b_Law_inside 5 (some .int) [(0, 10, 13, 13), (0, 10, 17, 15)] :: BW) { frames := 8, cells := 1, slots := 6, locals := 126 } (PL sz (dC, dI) [(cI, .int), (cZ, .boolean), (cL, .long)] (wL cI cZ cL ad x fo) [.ref (ad 0), .int a1, .int a2, .ref (ad 29)]) (UQ (some (.int (hv_inside x a1 a2))) (WB (dC, dI) [(cI, .int), (cZ, .boolean), (cL, .long)] (wL cI cZ cL ad (hs_inside x a1 a2) (ho_inside x a1 a2 fo))) (aC 30 ad sz)) 1 6 (aC 30 ad sz) := by
  refine MX.ofWith (cc := b_Law_inside) (maxL := 5) (ret := some .int) (hs := [(0, 10, 13, 13), (0, 10, 17, 15)]) (by decide) rfl ?_
  intro p e s m args below meth c s₁ B hml htab hv
  obtain ⟨hE, hsz, rfl, hP, hK, hN⟩ := hv
  subst hsz
  have hx := B.exec
  have hb := B.bytes
  have hr := B.returns
  have hts := atoms_spec (ws := Cond.codeWith y_Law_inside b_Law_inside 5 (some .int) [(0, 10, 13, 13), (0, 10, 17, 15)] :: BW) B.pre
  have hbw : ∀ w ∈ BW, w.before ([.ref (ad 0), .int a1, .int a2, .ref (ad 29)]).toArray s = true := fun w h => hts w (List.mem_cons_of_mem _ h)
  have hown : s.vm.findClass "PlanRowsLaw" = some m.cls := findClass_of_methodNamed B.named
  have hlocks := B.notSynchronized
  have hK2 : va_K (dC, dI) clsA [(cI, .int), (cZ, .boolean)] s := hK.sub [0, 1] rfl
  have hPc := wL_C hP
  have hDx : ∀ z f, va_D (aC 30 ad s.heap.size) (wL cI cZ cL ad z f) := fun z f => w_D hj (wL_ad cI cZ cL ad z f) _
  have hS : va_S (aC 30 ad s.heap.size) s.heap s.heap [] := va_S.rf
  have hl := lv_entry ([.ref (ad 0), .int a1, .int a2, .ref (ad 29)]) (n := 5) (Nat.le_of_ble_eq_true rfl)
  rw [lg_entry_eq]
  generalize (lg_sl ([.ref (ad 0), .int a1, .int a2, .ref (ad 29)]) ++ List.replicate (5 - (lg_sl ([.ref (ad 0), .int a1, .int a2, .ref (ad 29)])).length) Slot.unset).toArray = ls at hl ⊢
  have hl : lv_has ls 5 [(0, .ref (ad 0)), (1, .int a1), (2, .int a2), (3, .ref (ad 29))] := hl
  refine lv_aload_n hx hb d_Law_inside_0 rfl (lv_at hl 3 rfl) ?_
  refine lv_iconst (v := 0) hx hb d_Law_inside_1 (by decide) ?_
  refine lv_aload_n hx hb d_Law_inside_2 rfl (lv_at hl 0 rfl) ?_
  refine lv_iload_n hx hb d_Law_inside_3 rfl (lv_at hl 1 rfl) ?_
  refine lv_iload_n hx hb d_Law_inside_4 rfl (lv_at hl 2 rfl) ?_
  rcases kv_inside x a1 a2 with hk | hk | hk
  · refine x_pure (x_runV (C := "PlanRows") (b := ad 0) (As := [.int a1, .int a2]) (rest := [.int 0, .ref (ad 29)]) ⟨hx, hb, hml, hown, hts⟩ (c_Plan_inside l dC dI cI cZ ad x hI a1 a2 hk) (cw_Law_63 hts rfl rfl ⟨Nat.le_of_ble_eq_true rfl, Nat.le_of_ble_eq_true rfl⟩) ⟨PC.blind, va_recv hK2 hPc (ci := 8) (q0 := 0) rfl rfl, PC.at hK2 hN hPc⟩ rfl rfl hl.1 rfl (lv_room (Nat.le_of_ble_eq_true rfl)) d_Law_inside_5 ⟨Nat.zero_le _, Nat.zero_le _⟩) ?_
    refine lv_i2l hx hb d_Law_inside_8 rfl ?_
    have hD := hDx x fo
    refine va_last hx hb hK hP hD hS 29 2 rfl rfl in01 d_Law_inside_9 (fun H locs hP hD hS => ?_)
    rw [wL_set] at hP
    refine lv_goto (tgt := 21) hx hb d_Law_inside_10 (by decide) ?_
    refine lv_iconst (v := 0) hx hb d_Law_inside_21 (by decide) ?_
    refine W.widen (k := 1) (n := 6) (by omega) (by omega) ?_
    exact W.toX (W.iret (v := 0) hx hb hr (fun t ht hW => ⟨by rw [show hv_inside x a1 a2 = 0 from if_pos hk], ⟨by rw [ht, show hs_inside x a1 a2 = x from if_pos hk, show ho_inside x a1 a2 fo = vp_updL fo (0 : Int32).toNatClampNeg ((f_Plan_inside x a1 a2).toInt64) from if_pos hk]; exact hP, va_K.moved hW.alike hK, hN.warm hW⟩, hS.F ht⟩) hS.2.2 d_Law_inside_22)
  · have htq := t_Plan_inside l htr dC dI cI cZ ad x hI a1 a2 (by rw [hk]; decide)
    rw [hk] at htq
    refine x_caught (ns := [xnm 1, xnm 2]) (hpc := 13) (x_runV (C := "PlanRows") (b := ad 0) (As := [.int a1, .int a2]) (rest := [.int 0, .ref (ad 29)]) ⟨hx, hb, hml, hown, hts⟩ htq (cw_Law_63 hts rfl rfl ⟨Nat.le_of_ble_eq_true rfl, Nat.le_of_ble_eq_true rfl⟩) ⟨PX.blind, va_recv hK2 hPc (ci := 8) (q0 := 0) rfl rfl, PX.at hE.1 hK2 hN hPc⟩ rfl rfl hl.1 rfl (lv_room (Nat.le_of_ble_eq_true rfl)) d_Law_inside_5 ⟨Nat.le_of_ble_eq_true rfl, Nat.le_of_ble_eq_true rfl⟩) hown htab ⟨by decide, by decide, by decide, hbw _ w_226, Or.inl ⟨xn_cast hE.1 (by decide) (by decide), rfl⟩⟩ (fun xq H hz1 hk1 => ?_)
    have hP := wL_kept hP hk1
    have hS : va_S (aC 30 ad s.heap.size) s.heap H [] := ⟨hz1, fun q h1 _ => hk1 q h1, fun q hq => by cases hq⟩
    refine lv_astore (lv' := [(4, .ref xq), (0, .ref (ad 0)), (1, .int a1), (2, .int a2), (3, .ref (ad 29))]) hx hb d_Law_inside_13 hl (by decide) rfl (fun ls hl => ?_)
    refine lv_iconst (v := 1) hx hb d_Law_inside_15 (by decide) ?_
    refine W.widen (k := 1) (n := 6) (by omega) (by omega) ?_
    exact W.toX (W.iret (v := 1) hx hb hr (fun t ht hW => ⟨by rw [show hv_inside x a1 a2 = 1 from by unfold hv_inside; rw [hk]; rfl], ⟨by rw [ht, show hs_inside x a1 a2 = x from if_neg (by rw [hk]; decide), show ho_inside x a1 a2 fo = fo from if_neg (by rw [hk]; decide)]; exact hP, va_K.moved hW.alike hK, hN.warm hW⟩, hS.F ht⟩) hS.2.2 d_Law_inside_16)
  · have htq := t_Plan_inside l htr dC dI cI cZ ad x hI a1 a2 (by rw [hk]; decide)
    rw [hk] at htq
    refine x_caught (ns := [xnm 1, xnm 2]) (hpc := 17) (x_runV (C := "PlanRows") (b := ad 0) (As := [.int a1, .int a2]) (rest := [.int 0, .ref (ad 29)]) ⟨hx, hb, hml, hown, hts⟩ htq (cw_Law_63 hts rfl rfl ⟨Nat.le_of_ble_eq_true rfl, Nat.le_of_ble_eq_true rfl⟩) ⟨PX.blind, va_recv hK2 hPc (ci := 8) (q0 := 0) rfl rfl, PX.at hE.1 hK2 hN hPc⟩ rfl rfl hl.1 rfl (lv_room (Nat.le_of_ble_eq_true rfl)) d_Law_inside_5 ⟨Nat.le_of_ble_eq_true rfl, Nat.le_of_ble_eq_true rfl⟩) hown htab ⟨by decide, by decide, by decide, hbw _ w_226, Or.inr ⟨hE.2 2 1 (by decide) (by decide) (by decide) (by decide) (by decide), ⟨by decide, by decide, by decide, hbw _ w_227, Or.inl ⟨xn_cast hE.1 (by decide) (by decide), rfl⟩⟩⟩⟩ (fun xq H hz1 hk1 => ?_)
    have hP := wL_kept hP hk1
    have hS : va_S (aC 30 ad s.heap.size) s.heap H [] := ⟨hz1, fun q h1 _ => hk1 q h1, fun q hq => by cases hq⟩
    refine lv_astore (lv' := [(4, .ref xq), (0, .ref (ad 0)), (1, .int a1), (2, .int a2), (3, .ref (ad 29))]) hx hb d_Law_inside_17 hl (by decide) rfl (fun ls hl => ?_)
    refine lv_iconst (v := 2) hx hb d_Law_inside_19 (by decide) ?_
    refine W.widen (k := 1) (n := 6) (by omega) (by omega) ?_
    exact W.toX (W.iret (v := 2) hx hb hr (fun t ht hW => ⟨by rw [show hv_inside x a1 a2 = 2 from by unfold hv_inside; rw [hk]; rfl], ⟨by rw [ht, show hs_inside x a1 a2 = x from if_neg (by rw [hk]; decide), show ho_inside x a1 a2 fo = fo from if_neg (by rw [hk]; decide)]; exact hP, va_K.moved hW.alike hK, hN.warm hW⟩, hS.F ht⟩) hS.2.2 d_Law_inside_20)
theorem kv_window (x : ST) (a1 a2 a3 a4 : Int32) : k_Plan_window x a1 a2 a3 a4 = 0 ∨ k_Plan_window x a1 a2 a3 a4 = 1 ∨ k_Plan_window x a1 a2 a3 a4 = 2 ∨ k_Plan_window x a1 a2 a3 a4 = 4 := by
  unfold k_Plan_window
  repeat' split
  all_goals first | exact (Or.inl rfl) | exact (Or.inr (Or.inl rfl)) | exact (Or.inr (Or.inr (Or.inl rfl))) | exact (Or.inr (Or.inr (Or.inr rfl)))
def hv_window (x : ST) (a1 a2 a3 a4 : Int32) : Int32 := if k_Plan_window x a1 a2 a3 a4 = 0 then 0 else if k_Plan_window x a1 a2 a3 a4 = 1 then 1 else if k_Plan_window x a1 a2 a3 a4 = 2 then 2 else 3
def hs_window (x : ST) (a1 a2 a3 a4 : Int32) : ST := if k_Plan_window x a1 a2 a3 a4 = 0 then (g_Plan_window x a1 a2 a3 a4).2 else x
def ho_window (x : ST) (a1 a2 a3 a4 : Int32) (fo : Nat → Int64) : Nat → Int64 := if k_Plan_window x a1 a2 a3 a4 = 0 then vp_updL fo (0 : Int32).toNatClampNeg (((g_Plan_window x a1 a2 a3 a4).1).toInt64) else fo
set_option maxHeartbeats 400000 in
set_option maxRecDepth 100000 in
theorem h_window (l : Launch) (htr : l.stackTraces = false) (dC : Nat → ClassId) (dI : Nat → Nat → Nat) (cI cZ cL : ClassId) (ad : Nat → Nat) (hj : aInj 30 ad) (x : ST) (hI : CIn x) (fo : Nat → Int64) (sz : Nat) (a1 a2 a3 a4 : Int32) : MX l y_Law_window (Cond.codeWith y_Law_window b_Law_window 7 (some .int) [(0, 14, 17, 13), (0, 14, 21, 15), (0, 14, 25, 17)] :: BW) { frames := 9, cells := 1, slots := 6, locals := 150 } (PL sz (dC, dI) [(cI, .int), (cZ, .boolean), (cL, .long)] (wL cI cZ cL ad x fo) [.ref (ad 0), .int a1, .int a2, .int a3, .int a4, .ref (ad 29)]) (UQ (some (.int (hv_window x a1 a2 a3 a4))) (WB (dC, dI) [(cI, .int), (cZ, .boolean), (cL, .long)] (wL cI cZ cL ad (hs_window x a1 a2 a3 a4) (ho_window x a1 a2 a3 a4 fo))) (aC 30 ad sz)) 1 6 (aC 30 ad sz) := by
  refine MX.ofWith (cc := b_Law_window) (maxL := 7) (ret := some .int) (hs := [(0, 14, 17, 13), (0, 14, 21, 15), (0, 14, 25, 17)]) (by decide) rfl ?_
  intro p e s m args below meth c s₁ B hml htab hv
  obtain ⟨hE, hsz, rfl, hP, hK, hN⟩ := hv
  subst hsz
  have hx := B.exec
  have hb := B.bytes
  have hr := B.returns
  have hts := atoms_spec (ws := Cond.codeWith y_Law_window b_Law_window 7 (some .int) [(0, 14, 17, 13), (0, 14, 21, 15), (0, 14, 25, 17)] :: BW) B.pre
  have hbw : ∀ w ∈ BW, w.before ([.ref (ad 0), .int a1, .int a2, .int a3, .int a4, .ref (ad 29)]).toArray s = true := fun w h => hts w (List.mem_cons_of_mem _ h)
  have hown : s.vm.findClass "PlanRowsLaw" = some m.cls := findClass_of_methodNamed B.named
  have hlocks := B.notSynchronized
  have hK2 : va_K (dC, dI) clsA [(cI, .int), (cZ, .boolean)] s := hK.sub [0, 1] rfl
  have hPc := wL_C hP
  have hDx : ∀ z f, va_D (aC 30 ad s.heap.size) (wL cI cZ cL ad z f) := fun z f => w_D hj (wL_ad cI cZ cL ad z f) _
  have hS : va_S (aC 30 ad s.heap.size) s.heap s.heap [] := va_S.rf
  have hl := lv_entry ([.ref (ad 0), .int a1, .int a2, .int a3, .int a4, .ref (ad 29)]) (n := 7) (Nat.le_of_ble_eq_true rfl)
  rw [lg_entry_eq]
  generalize (lg_sl ([.ref (ad 0), .int a1, .int a2, .int a3, .int a4, .ref (ad 29)]) ++ List.replicate (7 - (lg_sl ([.ref (ad 0), .int a1, .int a2, .int a3, .int a4, .ref (ad 29)])).length) Slot.unset).toArray = ls at hl ⊢
  have hl : lv_has ls 7 [(0, .ref (ad 0)), (1, .int a1), (2, .int a2), (3, .int a3), (4, .int a4), (5, .ref (ad 29))] := hl
  refine lv_aload hx hb d_Law_window_0 (lv_at hl 5 rfl) ?_
  refine lv_iconst (v := 0) hx hb d_Law_window_2 (by decide) ?_
  refine lv_aload_n hx hb d_Law_window_3 rfl (lv_at hl 0 rfl) ?_
  refine lv_iload_n hx hb d_Law_window_4 rfl (lv_at hl 1 rfl) ?_
  refine lv_iload_n hx hb d_Law_window_5 rfl (lv_at hl 2 rfl) ?_
  refine lv_iload_n hx hb d_Law_window_6 rfl (lv_at hl 3 rfl) ?_
  refine lv_iload hx hb d_Law_window_7 (lv_at hl 4 rfl) ?_
  rcases kv_window x a1 a2 a3 a4 with hk | hk | hk | hk
  · refine x_upd (x_runV (C := "PlanRows") (b := ad 0) (As := [.int a1, .int a2, .int a3, .int a4]) (rest := [.int 0, .ref (ad 29)]) ⟨hx, hb, hml, hown, hts⟩ (u_Plan_window l dC dI cI cZ ad (aInj_29 hj) x hI s.heap.size a1 a2 a3 a4 hk) (cw_Law_66 hts rfl rfl ⟨Nat.le_of_ble_eq_true rfl, Nat.le_of_ble_eq_true rfl⟩) ⟨PCZ.blind, va_recv hK2 hPc (ci := 8) (q0 := 0) rfl rfl, PCZ.at hK2 hN hPc⟩ rfl rfl hl.1 rfl (lv_room (Nat.le_of_ble_eq_true rfl)) d_Law_window_9 ⟨Nat.zero_le _, Nat.zero_le _⟩) hS (fun q _ h => aC_29 q h) (fun q h => aC_29 q h) (fun t H locs ht hW hB hz1 hk1 hS => ?_)
    obtain ⟨hP1, -, -⟩ := hB
    rw [ht] at hP1
    have hP := wL_join hP hP1 (wL_out hj hP hk1)
    refine lv_i2l hx hb d_Law_window_12 rfl ?_
    have hD := hDx ((g_Plan_window x a1 a2 a3 a4).2) fo
    refine va_last hx hb hK hP hD hS 29 2 rfl rfl in01 d_Law_window_13 (fun H locs hP hD hS => ?_)
    rw [wL_set] at hP
    refine lv_goto (tgt := 29) hx hb d_Law_window_14 (by decide) ?_
    refine lv_iconst (v := 0) hx hb d_Law_window_29 (by decide) ?_
    refine W.widen (k := 1) (n := 6) (by omega) (by omega) ?_
    exact W.toX (W.iret (v := 0) hx hb hr (fun t ht hW => ⟨by rw [show hv_window x a1 a2 a3 a4 = 0 from if_pos hk], ⟨by rw [ht, show hs_window x a1 a2 a3 a4 = (g_Plan_window x a1 a2 a3 a4).2 from if_pos hk, show ho_window x a1 a2 a3 a4 fo = vp_updL fo (0 : Int32).toNatClampNeg (((g_Plan_window x a1 a2 a3 a4).1).toInt64) from if_pos hk]; exact hP, va_K.moved hW.alike hK, hN.warm hW⟩, hS.F ht⟩) hS.2.2 d_Law_window_30)
  · have htq := t_Plan_window l htr dC dI cI cZ ad x hI a1 a2 a3 a4 (by rw [hk]; decide)
    rw [hk] at htq
    refine x_caught (ns := [xnm 1, xnm 2, xnm 4]) (hpc := 17) (x_runV (C := "PlanRows") (b := ad 0) (As := [.int a1, .int a2, .int a3, .int a4]) (rest := [.int 0, .ref (ad 29)]) ⟨hx, hb, hml, hown, hts⟩ htq (cw_Law_66 hts rfl rfl ⟨Nat.le_of_ble_eq_true rfl, Nat.le_of_ble_eq_true rfl⟩) ⟨PX.blind, va_recv hK2 hPc (ci := 8) (q0 := 0) rfl rfl, PX.at hE.1 hK2 hN hPc⟩ rfl rfl hl.1 rfl (lv_room (Nat.le_of_ble_eq_true rfl)) d_Law_window_9 ⟨Nat.le_of_ble_eq_true rfl, Nat.le_of_ble_eq_true rfl⟩) hown htab ⟨by decide, by decide, by decide, hbw _ w_226, Or.inl ⟨xn_cast hE.1 (by decide) (by decide), rfl⟩⟩ (fun xq H hz1 hk1 => ?_)
    have hP := wL_kept hP hk1
    have hS : va_S (aC 30 ad s.heap.size) s.heap H [] := ⟨hz1, fun q h1 _ => hk1 q h1, fun q hq => by cases hq⟩
    refine lv_astore (lv' := [(6, .ref xq), (0, .ref (ad 0)), (1, .int a1), (2, .int a2), (3, .int a3), (4, .int a4), (5, .ref (ad 29))]) hx hb d_Law_window_17 hl (by decide) rfl (fun ls hl => ?_)
    refine lv_iconst (v := 1) hx hb d_Law_window_19 (by decide) ?_
    refine W.widen (k := 1) (n := 6) (by omega) (by omega) ?_
    exact W.toX (W.iret (v := 1) hx hb hr (fun t ht hW => ⟨by rw [show hv_window x a1 a2 a3 a4 = 1 from by unfold hv_window; rw [hk]; rfl], ⟨by rw [ht, show hs_window x a1 a2 a3 a4 = x from if_neg (by rw [hk]; decide), show ho_window x a1 a2 a3 a4 fo = fo from if_neg (by rw [hk]; decide)]; exact hP, va_K.moved hW.alike hK, hN.warm hW⟩, hS.F ht⟩) hS.2.2 d_Law_window_20)
  · have htq := t_Plan_window l htr dC dI cI cZ ad x hI a1 a2 a3 a4 (by rw [hk]; decide)
    rw [hk] at htq
    refine x_caught (ns := [xnm 1, xnm 2, xnm 4]) (hpc := 21) (x_runV (C := "PlanRows") (b := ad 0) (As := [.int a1, .int a2, .int a3, .int a4]) (rest := [.int 0, .ref (ad 29)]) ⟨hx, hb, hml, hown, hts⟩ htq (cw_Law_66 hts rfl rfl ⟨Nat.le_of_ble_eq_true rfl, Nat.le_of_ble_eq_true rfl⟩) ⟨PX.blind, va_recv hK2 hPc (ci := 8) (q0 := 0) rfl rfl, PX.at hE.1 hK2 hN hPc⟩ rfl rfl hl.1 rfl (lv_room (Nat.le_of_ble_eq_true rfl)) d_Law_window_9 ⟨Nat.le_of_ble_eq_true rfl, Nat.le_of_ble_eq_true rfl⟩) hown htab ⟨by decide, by decide, by decide, hbw _ w_226, Or.inr ⟨hE.2 2 1 (by decide) (by decide) (by decide) (by decide) (by decide), ⟨by decide, by decide, by decide, hbw _ w_227, Or.inl ⟨xn_cast hE.1 (by decide) (by decide), rfl⟩⟩⟩⟩ (fun xq H hz1 hk1 => ?_)
    have hP := wL_kept hP hk1
    have hS : va_S (aC 30 ad s.heap.size) s.heap H [] := ⟨hz1, fun q h1 _ => hk1 q h1, fun q hq => by cases hq⟩
    refine lv_astore (lv' := [(6, .ref xq), (0, .ref (ad 0)), (1, .int a1), (2, .int a2), (3, .int a3), (4, .int a4), (5, .ref (ad 29))]) hx hb d_Law_window_21 hl (by decide) rfl (fun ls hl => ?_)
    refine lv_iconst (v := 2) hx hb d_Law_window_23 (by decide) ?_
    refine W.widen (k := 1) (n := 6) (by omega) (by omega) ?_
    exact W.toX (W.iret (v := 2) hx hb hr (fun t ht hW => ⟨by rw [show hv_window x a1 a2 a3 a4 = 2 from by unfold hv_window; rw [hk]; rfl], ⟨by rw [ht, show hs_window x a1 a2 a3 a4 = x from if_neg (by rw [hk]; decide), show ho_window x a1 a2 a3 a4 fo = fo from if_neg (by rw [hk]; decide)]; exact hP, va_K.moved hW.alike hK, hN.warm hW⟩, hS.F ht⟩) hS.2.2 d_Law_window_24)
  · have htq := t_Plan_window l htr dC dI cI cZ ad x hI a1 a2 a3 a4 (by rw [hk]; decide)
    rw [hk] at htq
    refine x_caught (ns := [xnm 1, xnm 2, xnm 4]) (hpc := 25) (x_runV (C := "PlanRows") (b := ad 0) (As := [.int a1, .int a2, .int a3, .int a4]) (rest := [.int 0, .ref (ad 29)]) ⟨hx, hb, hml, hown, hts⟩ htq (cw_Law_66 hts rfl rfl ⟨Nat.le_of_ble_eq_true rfl, Nat.le_of_ble_eq_true rfl⟩) ⟨PX.blind, va_recv hK2 hPc (ci := 8) (q0 := 0) rfl rfl, PX.at hE.1 hK2 hN hPc⟩ rfl rfl hl.1 rfl (lv_room (Nat.le_of_ble_eq_true rfl)) d_Law_window_9 ⟨Nat.le_of_ble_eq_true rfl, Nat.le_of_ble_eq_true rfl⟩) hown htab ⟨by decide, by decide, by decide, hbw _ w_226, Or.inr ⟨hE.2 4 1 (by decide) (by decide) (by decide) (by decide) (by decide), ⟨by decide, by decide, by decide, hbw _ w_227, Or.inr ⟨hE.2 4 2 (by decide) (by decide) (by decide) (by decide) (by decide), ⟨by decide, by decide, by decide, hbw _ w_228, Or.inl ⟨xn_cast hE.1 (by decide) (by decide), rfl⟩⟩⟩⟩⟩⟩ (fun xq H hz1 hk1 => ?_)
    have hP := wL_kept hP hk1
    have hS : va_S (aC 30 ad s.heap.size) s.heap H [] := ⟨hz1, fun q h1 _ => hk1 q h1, fun q hq => by cases hq⟩
    refine lv_astore (lv' := [(6, .ref xq), (0, .ref (ad 0)), (1, .int a1), (2, .int a2), (3, .int a3), (4, .int a4), (5, .ref (ad 29))]) hx hb d_Law_window_25 hl (by decide) rfl (fun ls hl => ?_)
    refine lv_iconst (v := 3) hx hb d_Law_window_27 (by decide) ?_
    refine W.widen (k := 1) (n := 6) (by omega) (by omega) ?_
    exact W.toX (W.iret (v := 3) hx hb hr (fun t ht hW => ⟨by rw [show hv_window x a1 a2 a3 a4 = 3 from by unfold hv_window; rw [hk]; rfl], ⟨by rw [ht, show hs_window x a1 a2 a3 a4 = x from if_neg (by rw [hk]; decide), show ho_window x a1 a2 a3 a4 fo = fo from if_neg (by rw [hk]; decide)]; exact hP, va_K.moved hW.alike hK, hN.warm hW⟩, hS.F ht⟩) hS.2.2 d_Law_window_28)
theorem kv_reaches (x : ST) (a1 a2 a3 a4 a5 : Int32) : k_Plan_reaches x a1 a2 a3 a4 a5 = 0 ∨ k_Plan_reaches x a1 a2 a3 a4 a5 = 1 ∨ k_Plan_reaches x a1 a2 a3 a4 a5 = 2 := by
  unfold k_Plan_reaches
  repeat' split
  all_goals first | exact (Or.inl rfl) | exact (Or.inr (Or.inl rfl)) | exact (Or.inr (Or.inr rfl))
def hv_reaches (x : ST) (a1 a2 a3 a4 a5 : Int32) : Int32 := if k_Plan_reaches x a1 a2 a3 a4 a5 = 0 then 0 else if k_Plan_reaches x a1 a2 a3 a4 a5 = 1 then 1 else 2
def hs_reaches (x : ST) (a1 a2 a3 a4 a5 : Int32) : ST := if k_Plan_reaches x a1 a2 a3 a4 a5 = 0 then x else x
def ho_reaches (x : ST) (a1 a2 a3 a4 a5 : Int32) (fo : Nat → Int64) : Nat → Int64 := if k_Plan_reaches x a1 a2 a3 a4 a5 = 0 then vp_updL fo (0 : Int32).toNatClampNeg (if f_Plan_reaches x a1 a2 a3 a4 a5 = 0 then 0 else 1) else fo
set_option maxHeartbeats 400000 in
set_option maxRecDepth 100000 in
theorem h_reaches (l : Launch) (htr : l.stackTraces = false) (dC : Nat → ClassId) (dI : Nat → Nat → Nat) (cI cZ cL : ClassId) (ad : Nat → Nat) (hj : aInj 30 ad) (x : ST) (hI : CIn x) (fo : Nat → Int64) (sz : Nat) (a1 a2 a3 a4 a5 : Int32) : MX l y_Law_reaches (Cond.codeWith y_Law_reaches b_Law_reaches 8 (some .int) [(0, 23, 26, 13), (0, 23, 30, 15)] :: BW) { frames := 9, cells := 1, slots := 6, locals := 151 } (PL sz (dC, dI) [(cI, .int), (cZ, .boolean), (cL, .long)] (wL cI cZ cL ad x fo) [.ref (ad 0), .int a1, .int a2, .int a3, .int a4, .int a5, .ref (ad 29)]) (UQ (some (.int (hv_reaches x a1 a2 a3 a4 a5))) (WB (dC, dI) [(cI, .int), (cZ, .boolean), (cL, .long)] (wL cI cZ cL ad (hs_reaches x a1 a2 a3 a4 a5) (ho_reaches x a1 a2 a3 a4 a5 fo))) (aC 30 ad sz)) 1 6 (aC 30 ad sz) := by
  refine MX.ofWith (cc := b_Law_reaches) (maxL := 8) (ret := some .int) (hs := [(0, 23, 26, 13), (0, 23, 30, 15)]) (by decide) rfl ?_
  intro p e s m args below meth c s₁ B hml htab hv
  obtain ⟨hE, hsz, rfl, hP, hK, hN⟩ := hv
  subst hsz
  have hx := B.exec
  have hb := B.bytes
  have hr := B.returns
  have hts := atoms_spec (ws := Cond.codeWith y_Law_reaches b_Law_reaches 8 (some .int) [(0, 23, 26, 13), (0, 23, 30, 15)] :: BW) B.pre
  have hbw : ∀ w ∈ BW, w.before ([.ref (ad 0), .int a1, .int a2, .int a3, .int a4, .int a5, .ref (ad 29)]).toArray s = true := fun w h => hts w (List.mem_cons_of_mem _ h)
  have hown : s.vm.findClass "PlanRowsLaw" = some m.cls := findClass_of_methodNamed B.named
  have hlocks := B.notSynchronized
  have hK2 : va_K (dC, dI) clsA [(cI, .int), (cZ, .boolean)] s := hK.sub [0, 1] rfl
  have hPc := wL_C hP
  have hDx : ∀ z f, va_D (aC 30 ad s.heap.size) (wL cI cZ cL ad z f) := fun z f => w_D hj (wL_ad cI cZ cL ad z f) _
  have hS : va_S (aC 30 ad s.heap.size) s.heap s.heap [] := va_S.rf
  have hl := lv_entry ([.ref (ad 0), .int a1, .int a2, .int a3, .int a4, .int a5, .ref (ad 29)]) (n := 8) (Nat.le_of_ble_eq_true rfl)
  rw [lg_entry_eq]
  generalize (lg_sl ([.ref (ad 0), .int a1, .int a2, .int a3, .int a4, .int a5, .ref (ad 29)]) ++ List.replicate (8 - (lg_sl ([.ref (ad 0), .int a1, .int a2, .int a3, .int a4, .int a5, .ref (ad 29)])).length) Slot.unset).toArray = ls at hl ⊢
  have hl : lv_has ls 8 [(0, .ref (ad 0)), (1, .int a1), (2, .int a2), (3, .int a3), (4, .int a4), (5, .int a5), (6, .ref (ad 29))] := hl
  refine lv_aload hx hb d_Law_reaches_0 (lv_at hl 6 rfl) ?_
  refine lv_iconst (v := 0) hx hb d_Law_reaches_2 (by decide) ?_
  refine lv_aload_n hx hb d_Law_reaches_3 rfl (lv_at hl 0 rfl) ?_
  refine lv_iload_n hx hb d_Law_reaches_4 rfl (lv_at hl 1 rfl) ?_
  refine lv_iload_n hx hb d_Law_reaches_5 rfl (lv_at hl 2 rfl) ?_
  refine lv_iload_n hx hb d_Law_reaches_6 rfl (lv_at hl 3 rfl) ?_
  refine lv_iload hx hb d_Law_reaches_7 (lv_at hl 4 rfl) ?_
  refine lv_iload hx hb d_Law_reaches_9 (lv_at hl 5 rfl) ?_
  rcases kv_reaches x a1 a2 a3 a4 a5 with hk | hk | hk
  · refine x_pure (x_runV (C := "PlanRows") (b := ad 0) (As := [.int a1, .int a2, .int a3, .int a4, .int a5]) (rest := [.int 0, .ref (ad 29)]) ⟨hx, hb, hml, hown, hts⟩ (c_Plan_reaches l dC dI cI cZ ad x hI a1 a2 a3 a4 a5 hk) (cw_Law_69 hts rfl rfl ⟨Nat.le_of_ble_eq_true rfl, Nat.le_of_ble_eq_true rfl⟩) ⟨PC.blind, va_recv hK2 hPc (ci := 8) (q0 := 0) rfl rfl, PC.at hK2 hN hPc⟩ rfl rfl hl.1 rfl (lv_room (Nat.le_of_ble_eq_true rfl)) d_Law_reaches_11 ⟨Nat.zero_le _, Nat.zero_le _⟩) ?_
    refine lv_if_eq (tgt := 21) hx hb d_Law_reaches_14 (by decide) (fun c_1 => ?_) (fun c_1 => ?_)
    · refine lv_lconst (v := 0) hx hb d_Law_reaches_21 (by decide) ?_
      have hD := hDx x fo
      refine va_last hx hb hK hP hD hS 29 2 rfl rfl in01 d_Law_reaches_22 (fun H locs hP hD hS => ?_)
      rw [wL_set] at hP
      refine lv_goto (tgt := 34) hx hb d_Law_reaches_23 (by decide) ?_
      refine lv_iconst (v := 0) hx hb d_Law_reaches_34 (by decide) ?_
      refine W.widen (k := 1) (n := 6) (by omega) (by omega) ?_
      exact W.toX (W.iret (v := 0) hx hb hr (fun t ht hW => ⟨by rw [show hv_reaches x a1 a2 a3 a4 a5 = 0 from if_pos hk], ⟨by rw [ht, show hs_reaches x a1 a2 a3 a4 a5 = x from if_pos hk, show ho_reaches x a1 a2 a3 a4 a5 fo = vp_updL fo (0 : Int32).toNatClampNeg 0 from by unfold ho_reaches; rw [if_pos hk, if_pos c_1]]; exact hP, va_K.moved hW.alike hK, hN.warm hW⟩, hS.F ht⟩) hS.2.2 d_Law_reaches_35)
    · refine lv_lconst (v := 1) hx hb d_Law_reaches_17 (by decide) ?_
      refine lv_goto (tgt := 22) hx hb d_Law_reaches_18 (by decide) ?_
      have hD := hDx x fo
      refine va_last hx hb hK hP hD hS 29 2 rfl rfl in01 d_Law_reaches_22 (fun H locs hP hD hS => ?_)
      rw [wL_set] at hP
      refine lv_goto (tgt := 34) hx hb d_Law_reaches_23 (by decide) ?_
      refine lv_iconst (v := 0) hx hb d_Law_reaches_34 (by decide) ?_
      refine W.widen (k := 1) (n := 6) (by omega) (by omega) ?_
      exact W.toX (W.iret (v := 0) hx hb hr (fun t ht hW => ⟨by rw [show hv_reaches x a1 a2 a3 a4 a5 = 0 from if_pos hk], ⟨by rw [ht, show hs_reaches x a1 a2 a3 a4 a5 = x from if_pos hk, show ho_reaches x a1 a2 a3 a4 a5 fo = vp_updL fo (0 : Int32).toNatClampNeg 1 from by unfold ho_reaches; rw [if_pos hk, if_neg c_1]]; exact hP, va_K.moved hW.alike hK, hN.warm hW⟩, hS.F ht⟩) hS.2.2 d_Law_reaches_35)
  · have htq := t_Plan_reaches l htr dC dI cI cZ ad x hI a1 a2 a3 a4 a5 (by rw [hk]; decide)
    rw [hk] at htq
    refine x_caught (ns := [xnm 1, xnm 2]) (hpc := 26) (x_runV (C := "PlanRows") (b := ad 0) (As := [.int a1, .int a2, .int a3, .int a4, .int a5]) (rest := [.int 0, .ref (ad 29)]) ⟨hx, hb, hml, hown, hts⟩ htq (cw_Law_69 hts rfl rfl ⟨Nat.le_of_ble_eq_true rfl, Nat.le_of_ble_eq_true rfl⟩) ⟨PX.blind, va_recv hK2 hPc (ci := 8) (q0 := 0) rfl rfl, PX.at hE.1 hK2 hN hPc⟩ rfl rfl hl.1 rfl (lv_room (Nat.le_of_ble_eq_true rfl)) d_Law_reaches_11 ⟨Nat.le_of_ble_eq_true rfl, Nat.le_of_ble_eq_true rfl⟩) hown htab ⟨by decide, by decide, by decide, hbw _ w_226, Or.inl ⟨xn_cast hE.1 (by decide) (by decide), rfl⟩⟩ (fun xq H hz1 hk1 => ?_)
    have hP := wL_kept hP hk1
    have hS : va_S (aC 30 ad s.heap.size) s.heap H [] := ⟨hz1, fun q h1 _ => hk1 q h1, fun q hq => by cases hq⟩
    refine lv_astore (lv' := [(7, .ref xq), (0, .ref (ad 0)), (1, .int a1), (2, .int a2), (3, .int a3), (4, .int a4), (5, .int a5), (6, .ref (ad 29))]) hx hb d_Law_reaches_26 hl (by decide) rfl (fun ls hl => ?_)
    refine lv_iconst (v := 1) hx hb d_Law_reaches_28 (by decide) ?_
    refine W.widen (k := 1) (n := 6) (by omega) (by omega) ?_
    exact W.toX (W.iret (v := 1) hx hb hr (fun t ht hW => ⟨by rw [show hv_reaches x a1 a2 a3 a4 a5 = 1 from by unfold hv_reaches; rw [hk]; rfl], ⟨by rw [ht, show hs_reaches x a1 a2 a3 a4 a5 = x from if_neg (by rw [hk]; decide), show ho_reaches x a1 a2 a3 a4 a5 fo = fo from if_neg (by rw [hk]; decide)]; exact hP, va_K.moved hW.alike hK, hN.warm hW⟩, hS.F ht⟩) hS.2.2 d_Law_reaches_29)
  · have htq := t_Plan_reaches l htr dC dI cI cZ ad x hI a1 a2 a3 a4 a5 (by rw [hk]; decide)
    rw [hk] at htq
    refine x_caught (ns := [xnm 1, xnm 2]) (hpc := 30) (x_runV (C := "PlanRows") (b := ad 0) (As := [.int a1, .int a2, .int a3, .int a4, .int a5]) (rest := [.int 0, .ref (ad 29)]) ⟨hx, hb, hml, hown, hts⟩ htq (cw_Law_69 hts rfl rfl ⟨Nat.le_of_ble_eq_true rfl, Nat.le_of_ble_eq_true rfl⟩) ⟨PX.blind, va_recv hK2 hPc (ci := 8) (q0 := 0) rfl rfl, PX.at hE.1 hK2 hN hPc⟩ rfl rfl hl.1 rfl (lv_room (Nat.le_of_ble_eq_true rfl)) d_Law_reaches_11 ⟨Nat.le_of_ble_eq_true rfl, Nat.le_of_ble_eq_true rfl⟩) hown htab ⟨by decide, by decide, by decide, hbw _ w_226, Or.inr ⟨hE.2 2 1 (by decide) (by decide) (by decide) (by decide) (by decide), ⟨by decide, by decide, by decide, hbw _ w_227, Or.inl ⟨xn_cast hE.1 (by decide) (by decide), rfl⟩⟩⟩⟩ (fun xq H hz1 hk1 => ?_)
    have hP := wL_kept hP hk1
    have hS : va_S (aC 30 ad s.heap.size) s.heap H [] := ⟨hz1, fun q h1 _ => hk1 q h1, fun q hq => by cases hq⟩
    refine lv_astore (lv' := [(7, .ref xq), (0, .ref (ad 0)), (1, .int a1), (2, .int a2), (3, .int a3), (4, .int a4), (5, .int a5), (6, .ref (ad 29))]) hx hb d_Law_reaches_30 hl (by decide) rfl (fun ls hl => ?_)
    refine lv_iconst (v := 2) hx hb d_Law_reaches_32 (by decide) ?_
    refine W.widen (k := 1) (n := 6) (by omega) (by omega) ?_
    exact W.toX (W.iret (v := 2) hx hb hr (fun t ht hW => ⟨by rw [show hv_reaches x a1 a2 a3 a4 a5 = 2 from by unfold hv_reaches; rw [hk]; rfl], ⟨by rw [ht, show hs_reaches x a1 a2 a3 a4 a5 = x from if_neg (by rw [hk]; decide), show ho_reaches x a1 a2 a3 a4 a5 fo = fo from if_neg (by rw [hk]; decide)]; exact hP, va_K.moved hW.alike hK, hN.warm hW⟩, hS.F ht⟩) hS.2.2 d_Law_reaches_33)
theorem kv_ladder (x : ST) (a1 a2 a3 a4 : Int32) : k_Plan_ladder x a1 a2 a3 a4 = 0 ∨ k_Plan_ladder x a1 a2 a3 a4 = 1 ∨ k_Plan_ladder x a1 a2 a3 a4 = 2 := by
  unfold k_Plan_ladder
  repeat' split
  all_goals first | exact (Or.inl rfl) | exact (Or.inr (Or.inl rfl)) | exact (Or.inr (Or.inr rfl))
def hv_ladder (x : ST) (a1 a2 a3 a4 : Int32) : Int32 := if k_Plan_ladder x a1 a2 a3 a4 = 0 then 0 else if k_Plan_ladder x a1 a2 a3 a4 = 1 then 1 else 2
def hs_ladder (x : ST) (a1 a2 a3 a4 : Int32) : ST := if k_Plan_ladder x a1 a2 a3 a4 = 0 then x else x
def ho_ladder (x : ST) (a1 a2 a3 a4 : Int32) (fo : Nat → Int64) : Nat → Int64 := if k_Plan_ladder x a1 a2 a3 a4 = 0 then vp_updL fo (0 : Int32).toNatClampNeg ((f_Plan_ladder x a1 a2 a3 a4).toInt64) else fo
set_option maxHeartbeats 400000 in
set_option maxRecDepth 100000 in
theorem h_ladder (l : Launch) (htr : l.stackTraces = false) (dC : Nat → ClassId) (dI : Nat → Nat → Nat) (cI cZ cL : ClassId) (ad : Nat → Nat) (hj : aInj 30 ad) (x : ST) (hI : CIn x) (fo : Nat → Int64) (sz : Nat) (a1 a2 a3 a4 : Int32) : MX l y_Law_ladder (Cond.codeWith y_Law_ladder b_Law_ladder 7 (some .int) [(0, 14, 17, 13), (0, 14, 21, 15)] :: BW) { frames := 9, cells := 1, slots := 6, locals := 150 } (PL sz (dC, dI) [(cI, .int), (cZ, .boolean), (cL, .long)] (wL cI cZ cL ad x fo) [.ref (ad 0), .int a1, .int a2, .int a3, .int a4, .ref (ad 29)]) (UQ (some (.int (hv_ladder x a1 a2 a3 a4))) (WB (dC, dI) [(cI, .int), (cZ, .boolean), (cL, .long)] (wL cI cZ cL ad (hs_ladder x a1 a2 a3 a4) (ho_ladder x a1 a2 a3 a4 fo))) (aC 30 ad sz)) 1 6 (aC 30 ad sz) := by
  refine MX.ofWith (cc := b_Law_ladder) (maxL := 7) (ret := some .int) (hs := [(0, 14, 17, 13), (0, 14, 21, 15)]) (by decide) rfl ?_
  intro p e s m args below meth c s₁ B hml htab hv
  obtain ⟨hE, hsz, rfl, hP, hK, hN⟩ := hv
  subst hsz
  have hx := B.exec
  have hb := B.bytes
  have hr := B.returns
  have hts := atoms_spec (ws := Cond.codeWith y_Law_ladder b_Law_ladder 7 (some .int) [(0, 14, 17, 13), (0, 14, 21, 15)] :: BW) B.pre
  have hbw : ∀ w ∈ BW, w.before ([.ref (ad 0), .int a1, .int a2, .int a3, .int a4, .ref (ad 29)]).toArray s = true := fun w h => hts w (List.mem_cons_of_mem _ h)
  have hown : s.vm.findClass "PlanRowsLaw" = some m.cls := findClass_of_methodNamed B.named
  have hlocks := B.notSynchronized
  have hK2 : va_K (dC, dI) clsA [(cI, .int), (cZ, .boolean)] s := hK.sub [0, 1] rfl
  have hPc := wL_C hP
  have hDx : ∀ z f, va_D (aC 30 ad s.heap.size) (wL cI cZ cL ad z f) := fun z f => w_D hj (wL_ad cI cZ cL ad z f) _
  have hS : va_S (aC 30 ad s.heap.size) s.heap s.heap [] := va_S.rf
  have hl := lv_entry ([.ref (ad 0), .int a1, .int a2, .int a3, .int a4, .ref (ad 29)]) (n := 7) (Nat.le_of_ble_eq_true rfl)
  rw [lg_entry_eq]
  generalize (lg_sl ([.ref (ad 0), .int a1, .int a2, .int a3, .int a4, .ref (ad 29)]) ++ List.replicate (7 - (lg_sl ([.ref (ad 0), .int a1, .int a2, .int a3, .int a4, .ref (ad 29)])).length) Slot.unset).toArray = ls at hl ⊢
  have hl : lv_has ls 7 [(0, .ref (ad 0)), (1, .int a1), (2, .int a2), (3, .int a3), (4, .int a4), (5, .ref (ad 29))] := hl
  refine lv_aload hx hb d_Law_ladder_0 (lv_at hl 5 rfl) ?_
  refine lv_iconst (v := 0) hx hb d_Law_ladder_2 (by decide) ?_
  refine lv_aload_n hx hb d_Law_ladder_3 rfl (lv_at hl 0 rfl) ?_
  refine lv_iload_n hx hb d_Law_ladder_4 rfl (lv_at hl 1 rfl) ?_
  refine lv_iload_n hx hb d_Law_ladder_5 rfl (lv_at hl 2 rfl) ?_
  refine lv_iload_n hx hb d_Law_ladder_6 rfl (lv_at hl 3 rfl) ?_
  refine lv_iload hx hb d_Law_ladder_7 (lv_at hl 4 rfl) ?_
  rcases kv_ladder x a1 a2 a3 a4 with hk | hk | hk
  · refine x_pure (x_runV (C := "PlanRows") (b := ad 0) (As := [.int a1, .int a2, .int a3, .int a4]) (rest := [.int 0, .ref (ad 29)]) ⟨hx, hb, hml, hown, hts⟩ (c_Plan_ladder l dC dI cI cZ ad x hI a1 a2 a3 a4 hk) (cw_Law_73 hts rfl rfl ⟨Nat.le_of_ble_eq_true rfl, Nat.le_of_ble_eq_true rfl⟩) ⟨PC.blind, va_recv hK2 hPc (ci := 8) (q0 := 0) rfl rfl, PC.at hK2 hN hPc⟩ rfl rfl hl.1 rfl (lv_room (Nat.le_of_ble_eq_true rfl)) d_Law_ladder_9 ⟨Nat.zero_le _, Nat.zero_le _⟩) ?_
    refine lv_i2l hx hb d_Law_ladder_12 rfl ?_
    have hD := hDx x fo
    refine va_last hx hb hK hP hD hS 29 2 rfl rfl in01 d_Law_ladder_13 (fun H locs hP hD hS => ?_)
    rw [wL_set] at hP
    refine lv_goto (tgt := 25) hx hb d_Law_ladder_14 (by decide) ?_
    refine lv_iconst (v := 0) hx hb d_Law_ladder_25 (by decide) ?_
    refine W.widen (k := 1) (n := 6) (by omega) (by omega) ?_
    exact W.toX (W.iret (v := 0) hx hb hr (fun t ht hW => ⟨by rw [show hv_ladder x a1 a2 a3 a4 = 0 from if_pos hk], ⟨by rw [ht, show hs_ladder x a1 a2 a3 a4 = x from if_pos hk, show ho_ladder x a1 a2 a3 a4 fo = vp_updL fo (0 : Int32).toNatClampNeg ((f_Plan_ladder x a1 a2 a3 a4).toInt64) from if_pos hk]; exact hP, va_K.moved hW.alike hK, hN.warm hW⟩, hS.F ht⟩) hS.2.2 d_Law_ladder_26)
  · have htq := t_Plan_ladder l htr dC dI cI cZ ad x hI a1 a2 a3 a4 (by rw [hk]; decide)
    rw [hk] at htq
    refine x_caught (ns := [xnm 1, xnm 2]) (hpc := 17) (x_runV (C := "PlanRows") (b := ad 0) (As := [.int a1, .int a2, .int a3, .int a4]) (rest := [.int 0, .ref (ad 29)]) ⟨hx, hb, hml, hown, hts⟩ htq (cw_Law_73 hts rfl rfl ⟨Nat.le_of_ble_eq_true rfl, Nat.le_of_ble_eq_true rfl⟩) ⟨PX.blind, va_recv hK2 hPc (ci := 8) (q0 := 0) rfl rfl, PX.at hE.1 hK2 hN hPc⟩ rfl rfl hl.1 rfl (lv_room (Nat.le_of_ble_eq_true rfl)) d_Law_ladder_9 ⟨Nat.le_of_ble_eq_true rfl, Nat.le_of_ble_eq_true rfl⟩) hown htab ⟨by decide, by decide, by decide, hbw _ w_226, Or.inl ⟨xn_cast hE.1 (by decide) (by decide), rfl⟩⟩ (fun xq H hz1 hk1 => ?_)
    have hP := wL_kept hP hk1
    have hS : va_S (aC 30 ad s.heap.size) s.heap H [] := ⟨hz1, fun q h1 _ => hk1 q h1, fun q hq => by cases hq⟩
    refine lv_astore (lv' := [(6, .ref xq), (0, .ref (ad 0)), (1, .int a1), (2, .int a2), (3, .int a3), (4, .int a4), (5, .ref (ad 29))]) hx hb d_Law_ladder_17 hl (by decide) rfl (fun ls hl => ?_)
    refine lv_iconst (v := 1) hx hb d_Law_ladder_19 (by decide) ?_
    refine W.widen (k := 1) (n := 6) (by omega) (by omega) ?_
    exact W.toX (W.iret (v := 1) hx hb hr (fun t ht hW => ⟨by rw [show hv_ladder x a1 a2 a3 a4 = 1 from by unfold hv_ladder; rw [hk]; rfl], ⟨by rw [ht, show hs_ladder x a1 a2 a3 a4 = x from if_neg (by rw [hk]; decide), show ho_ladder x a1 a2 a3 a4 fo = fo from if_neg (by rw [hk]; decide)]; exact hP, va_K.moved hW.alike hK, hN.warm hW⟩, hS.F ht⟩) hS.2.2 d_Law_ladder_20)
  · have htq := t_Plan_ladder l htr dC dI cI cZ ad x hI a1 a2 a3 a4 (by rw [hk]; decide)
    rw [hk] at htq
    refine x_caught (ns := [xnm 1, xnm 2]) (hpc := 21) (x_runV (C := "PlanRows") (b := ad 0) (As := [.int a1, .int a2, .int a3, .int a4]) (rest := [.int 0, .ref (ad 29)]) ⟨hx, hb, hml, hown, hts⟩ htq (cw_Law_73 hts rfl rfl ⟨Nat.le_of_ble_eq_true rfl, Nat.le_of_ble_eq_true rfl⟩) ⟨PX.blind, va_recv hK2 hPc (ci := 8) (q0 := 0) rfl rfl, PX.at hE.1 hK2 hN hPc⟩ rfl rfl hl.1 rfl (lv_room (Nat.le_of_ble_eq_true rfl)) d_Law_ladder_9 ⟨Nat.le_of_ble_eq_true rfl, Nat.le_of_ble_eq_true rfl⟩) hown htab ⟨by decide, by decide, by decide, hbw _ w_226, Or.inr ⟨hE.2 2 1 (by decide) (by decide) (by decide) (by decide) (by decide), ⟨by decide, by decide, by decide, hbw _ w_227, Or.inl ⟨xn_cast hE.1 (by decide) (by decide), rfl⟩⟩⟩⟩ (fun xq H hz1 hk1 => ?_)
    have hP := wL_kept hP hk1
    have hS : va_S (aC 30 ad s.heap.size) s.heap H [] := ⟨hz1, fun q h1 _ => hk1 q h1, fun q hq => by cases hq⟩
    refine lv_astore (lv' := [(6, .ref xq), (0, .ref (ad 0)), (1, .int a1), (2, .int a2), (3, .int a3), (4, .int a4), (5, .ref (ad 29))]) hx hb d_Law_ladder_21 hl (by decide) rfl (fun ls hl => ?_)
    refine lv_iconst (v := 2) hx hb d_Law_ladder_23 (by decide) ?_
    refine W.widen (k := 1) (n := 6) (by omega) (by omega) ?_
    exact W.toX (W.iret (v := 2) hx hb hr (fun t ht hW => ⟨by rw [show hv_ladder x a1 a2 a3 a4 = 2 from by unfold hv_ladder; rw [hk]; rfl], ⟨by rw [ht, show hs_ladder x a1 a2 a3 a4 = x from if_neg (by rw [hk]; decide), show ho_ladder x a1 a2 a3 a4 fo = fo from if_neg (by rw [hk]; decide)]; exact hP, va_K.moved hW.alike hK, hN.warm hW⟩, hS.F ht⟩) hS.2.2 d_Law_ladder_24)
theorem kv_look (x : ST) (a1 a2 : Int32) : k_Plan_look x a1 a2 = 0 ∨ k_Plan_look x a1 a2 = 2 := by
  unfold k_Plan_look
  repeat' split
  all_goals first | exact (Or.inl rfl) | exact (Or.inr rfl)
def hv_look (x : ST) (a1 a2 : Int32) : Int32 := if k_Plan_look x a1 a2 = 0 then 0 else  1
def hs_look (x : ST) (a1 a2 : Int32) : ST := if k_Plan_look x a1 a2 = 0 then (g_Plan_look x a1 a2).2 else x
set_option maxHeartbeats 400000 in
set_option maxRecDepth 100000 in
theorem h_look (l : Launch) (htr : l.stackTraces = false) (dC : Nat → ClassId) (dI : Nat → Nat → Nat) (cI cZ cL : ClassId) (ad : Nat → Nat) (hj : aInj 30 ad) (x : ST) (hI : CIn x) (fo : Nat → Int64) (sz : Nat) (a1 a2 : Int32) : MX l y_Law_look (Cond.codeWith y_Law_look b_Law_look 4 (some .int) [(0, 6, 9, 15)] :: BW) { frames := 8, cells := 1, slots := 6, locals := 126 } (PL sz (dC, dI) [(cI, .int), (cZ, .boolean), (cL, .long)] (wL cI cZ cL ad x fo) [.ref (ad 0), .int a1, .int a2]) (UQ (some (.int (hv_look x a1 a2))) (WB (dC, dI) [(cI, .int), (cZ, .boolean), (cL, .long)] (wL cI cZ cL ad (hs_look x a1 a2) fo)) (aC 30 ad sz)) 1 6 (aC 30 ad sz) := by
  refine MX.ofWith (cc := b_Law_look) (maxL := 4) (ret := some .int) (hs := [(0, 6, 9, 15)]) (by decide) rfl ?_
  intro p e s m args below meth c s₁ B hml htab hv
  obtain ⟨hE, hsz, rfl, hP, hK, hN⟩ := hv
  subst hsz
  have hx := B.exec
  have hb := B.bytes
  have hr := B.returns
  have hts := atoms_spec (ws := Cond.codeWith y_Law_look b_Law_look 4 (some .int) [(0, 6, 9, 15)] :: BW) B.pre
  have hbw : ∀ w ∈ BW, w.before ([.ref (ad 0), .int a1, .int a2]).toArray s = true := fun w h => hts w (List.mem_cons_of_mem _ h)
  have hown : s.vm.findClass "PlanRowsLaw" = some m.cls := findClass_of_methodNamed B.named
  have hlocks := B.notSynchronized
  have hK2 : va_K (dC, dI) clsA [(cI, .int), (cZ, .boolean)] s := hK.sub [0, 1] rfl
  have hPc := wL_C hP
  have hDx : ∀ z f, va_D (aC 30 ad s.heap.size) (wL cI cZ cL ad z f) := fun z f => w_D hj (wL_ad cI cZ cL ad z f) _
  have hS : va_S (aC 30 ad s.heap.size) s.heap s.heap [] := va_S.rf
  have hl := lv_entry ([.ref (ad 0), .int a1, .int a2]) (n := 4) (Nat.le_of_ble_eq_true rfl)
  rw [lg_entry_eq]
  generalize (lg_sl ([.ref (ad 0), .int a1, .int a2]) ++ List.replicate (4 - (lg_sl ([.ref (ad 0), .int a1, .int a2])).length) Slot.unset).toArray = ls at hl ⊢
  have hl : lv_has ls 4 [(0, .ref (ad 0)), (1, .int a1), (2, .int a2)] := hl
  refine lv_aload_n hx hb d_Law_look_0 rfl (lv_at hl 0 rfl) ?_
  refine lv_iload_n hx hb d_Law_look_1 rfl (lv_at hl 1 rfl) ?_
  refine lv_iload_n hx hb d_Law_look_2 rfl (lv_at hl 2 rfl) ?_
  rcases kv_look x a1 a2 with hk | hk
  · refine x_upd (x_runV (C := "PlanRows") (b := ad 0) (As := [.int a1, .int a2]) (rest := []) ⟨hx, hb, hml, hown, hts⟩ (u_Plan_look l dC dI cI cZ ad (aInj_29 hj) x hI s.heap.size a1 a2 hk) (cw_Law_76 hts rfl rfl ⟨Nat.le_of_ble_eq_true rfl, Nat.le_of_ble_eq_true rfl⟩) ⟨PCZ.blind, va_recv hK2 hPc (ci := 8) (q0 := 0) rfl rfl, PCZ.at hK2 hN hPc⟩ rfl rfl hl.1 rfl (lv_room (Nat.le_of_ble_eq_true rfl)) d_Law_look_3 ⟨Nat.zero_le _, Nat.zero_le _⟩) hS (fun q _ h => aC_29 q h) (fun q h => aC_29 q h) (fun t H locs ht hW hB hz1 hk1 hS => ?_)
    obtain ⟨hP1, -, -⟩ := hB
    rw [ht] at hP1
    have hP := wL_join hP hP1 (wL_out hj hP hk1)
    refine lv_goto (tgt := 12) hx hb d_Law_look_6 (by decide) ?_
    refine lv_iconst (v := 0) hx hb d_Law_look_12 (by decide) ?_
    refine W.widen (k := 1) (n := 6) (by omega) (by omega) ?_
    exact W.toX (W.iret (v := 0) hx hb hr (fun t ht hW => ⟨by rw [show hv_look x a1 a2 = 0 from if_pos hk], ⟨by rw [ht, show hs_look x a1 a2 = (g_Plan_look x a1 a2).2 from if_pos hk]; exact hP, va_K.moved hW.alike hK, hN.warm hW⟩, hS.F ht⟩) hS.2.2 d_Law_look_13)
  · have htq := t_Plan_look l htr dC dI cI cZ ad x hI a1 a2 (by rw [hk]; decide)
    rw [hk] at htq
    refine x_caught (ns := [xnm 2]) (hpc := 9) (x_runV (C := "PlanRows") (b := ad 0) (As := [.int a1, .int a2]) (rest := []) ⟨hx, hb, hml, hown, hts⟩ htq (cw_Law_76 hts rfl rfl ⟨Nat.le_of_ble_eq_true rfl, Nat.le_of_ble_eq_true rfl⟩) ⟨PX.blind, va_recv hK2 hPc (ci := 8) (q0 := 0) rfl rfl, PX.at hE.1 hK2 hN hPc⟩ rfl rfl hl.1 rfl (lv_room (Nat.le_of_ble_eq_true rfl)) d_Law_look_3 ⟨Nat.le_of_ble_eq_true rfl, Nat.le_of_ble_eq_true rfl⟩) hown htab ⟨by decide, by decide, by decide, hbw _ w_227, Or.inl ⟨xn_cast hE.1 (by decide) (by decide), rfl⟩⟩ (fun xq H hz1 hk1 => ?_)
    have hP := wL_kept hP hk1
    have hS : va_S (aC 30 ad s.heap.size) s.heap H [] := ⟨hz1, fun q h1 _ => hk1 q h1, fun q hq => by cases hq⟩
    refine lv_astore_n (lv' := [(3, .ref xq), (0, .ref (ad 0)), (1, .int a1), (2, .int a2)]) hx hb d_Law_look_9 rfl hl (by decide) rfl (fun ls hl => ?_)
    refine lv_iconst (v := 1) hx hb d_Law_look_10 (by decide) ?_
    refine W.widen (k := 1) (n := 6) (by omega) (by omega) ?_
    exact W.toX (W.iret (v := 1) hx hb hr (fun t ht hW => ⟨by rw [show hv_look x a1 a2 = 1 from by unfold hv_look; rw [hk]; rfl], ⟨by rw [ht, show hs_look x a1 a2 = x from if_neg (by rw [hk]; decide)]; exact hP, va_K.moved hW.alike hK, hN.warm hW⟩, hS.F ht⟩) hS.2.2 d_Law_look_11)
theorem kv_old (x : ST) (a1 : Int32) : k_Plan_old x a1 = 0 ∨ k_Plan_old x a1 = 2 := by
  unfold k_Plan_old
  repeat' split
  all_goals first | exact (Or.inl rfl) | exact (Or.inr rfl)
def hv_old (x : ST) (a1 : Int32) : Int32 := if k_Plan_old x a1 = 0 then 0 else  1
def hs_old (x : ST) (a1 : Int32) : ST := if k_Plan_old x a1 = 0 then x else x
def ho_old (x : ST) (a1 : Int32) (fo : Nat → Int64) : Nat → Int64 := if k_Plan_old x a1 = 0 then vp_updL fo (0 : Int32).toNatClampNeg (if f_Plan_old x a1 = 0 then 0 else 1) else fo
set_option maxHeartbeats 400000 in
set_option maxRecDepth 100000 in
theorem h_old (l : Launch) (htr : l.stackTraces = false) (dC : Nat → ClassId) (dI : Nat → Nat → Nat) (cI cZ cL : ClassId) (ad : Nat → Nat) (hj : aInj 30 ad) (x : ST) (hI : CIn x) (fo : Nat → Int64) (sz : Nat) (a1 : Int32) : MX l y_Law_old (Cond.codeWith y_Law_old b_Law_old 4 (some .int) [(0, 16, 19, 15)] :: BW) { frames := 8, cells := 1, slots := 6, locals := 125 } (PL sz (dC, dI) [(cI, .int), (cZ, .boolean), (cL, .long)] (wL cI cZ cL ad x fo) [.ref (ad 0), .int a1, .ref (ad 29)]) (UQ (some (.int (hv_old x a1))) (WB (dC, dI) [(cI, .int), (cZ, .boolean), (cL, .long)] (wL cI cZ cL ad (hs_old x a1) (ho_old x a1 fo))) (aC 30 ad sz)) 1 6 (aC 30 ad sz) := by
  refine MX.ofWith (cc := b_Law_old) (maxL := 4) (ret := some .int) (hs := [(0, 16, 19, 15)]) (by decide) rfl ?_
  intro p e s m args below meth c s₁ B hml htab hv
  obtain ⟨hE, hsz, rfl, hP, hK, hN⟩ := hv
  subst hsz
  have hx := B.exec
  have hb := B.bytes
  have hr := B.returns
  have hts := atoms_spec (ws := Cond.codeWith y_Law_old b_Law_old 4 (some .int) [(0, 16, 19, 15)] :: BW) B.pre
  have hbw : ∀ w ∈ BW, w.before ([.ref (ad 0), .int a1, .ref (ad 29)]).toArray s = true := fun w h => hts w (List.mem_cons_of_mem _ h)
  have hown : s.vm.findClass "PlanRowsLaw" = some m.cls := findClass_of_methodNamed B.named
  have hlocks := B.notSynchronized
  have hK2 : va_K (dC, dI) clsA [(cI, .int), (cZ, .boolean)] s := hK.sub [0, 1] rfl
  have hPc := wL_C hP
  have hDx : ∀ z f, va_D (aC 30 ad s.heap.size) (wL cI cZ cL ad z f) := fun z f => w_D hj (wL_ad cI cZ cL ad z f) _
  have hS : va_S (aC 30 ad s.heap.size) s.heap s.heap [] := va_S.rf
  have hl := lv_entry ([.ref (ad 0), .int a1, .ref (ad 29)]) (n := 4) (Nat.le_of_ble_eq_true rfl)
  rw [lg_entry_eq]
  generalize (lg_sl ([.ref (ad 0), .int a1, .ref (ad 29)]) ++ List.replicate (4 - (lg_sl ([.ref (ad 0), .int a1, .ref (ad 29)])).length) Slot.unset).toArray = ls at hl ⊢
  have hl : lv_has ls 4 [(0, .ref (ad 0)), (1, .int a1), (2, .ref (ad 29))] := hl
  refine lv_aload_n hx hb d_Law_old_0 rfl (lv_at hl 2 rfl) ?_
  refine lv_iconst (v := 0) hx hb d_Law_old_1 (by decide) ?_
  refine lv_aload_n hx hb d_Law_old_2 rfl (lv_at hl 0 rfl) ?_
  refine lv_iload_n hx hb d_Law_old_3 rfl (lv_at hl 1 rfl) ?_
  rcases kv_old x a1 with hk | hk
  · refine x_pure (x_runV (C := "PlanRows") (b := ad 0) (As := [.int a1]) (rest := [.int 0, .ref (ad 29)]) ⟨hx, hb, hml, hown, hts⟩ (c_Plan_old l dC dI cI cZ ad x hI a1 hk) (cw_Law_79 hts rfl rfl ⟨Nat.le_of_ble_eq_true rfl, Nat.le_of_ble_eq_true rfl⟩) ⟨PC.blind, va_recv hK2 hPc (ci := 8) (q0 := 0) rfl rfl, PC.at hK2 hN hPc⟩ rfl rfl hl.1 rfl (lv_room (Nat.le_of_ble_eq_true rfl)) d_Law_old_4 ⟨Nat.zero_le _, Nat.zero_le _⟩) ?_
    refine lv_if_eq (tgt := 14) hx hb d_Law_old_7 (by decide) (fun c_1 => ?_) (fun c_1 => ?_)
    · refine lv_lconst (v := 0) hx hb d_Law_old_14 (by decide) ?_
      have hD := hDx x fo
      refine va_last hx hb hK hP hD hS 29 2 rfl rfl in01 d_Law_old_15 (fun H locs hP hD hS => ?_)
      rw [wL_set] at hP
      refine lv_goto (tgt := 22) hx hb d_Law_old_16 (by decide) ?_
      refine lv_iconst (v := 0) hx hb d_Law_old_22 (by decide) ?_
      refine W.widen (k := 1) (n := 6) (by omega) (by omega) ?_
      exact W.toX (W.iret (v := 0) hx hb hr (fun t ht hW => ⟨by rw [show hv_old x a1 = 0 from if_pos hk], ⟨by rw [ht, show hs_old x a1 = x from if_pos hk, show ho_old x a1 fo = vp_updL fo (0 : Int32).toNatClampNeg 0 from by unfold ho_old; rw [if_pos hk, if_pos c_1]]; exact hP, va_K.moved hW.alike hK, hN.warm hW⟩, hS.F ht⟩) hS.2.2 d_Law_old_23)
    · refine lv_lconst (v := 1) hx hb d_Law_old_10 (by decide) ?_
      refine lv_goto (tgt := 15) hx hb d_Law_old_11 (by decide) ?_
      have hD := hDx x fo
      refine va_last hx hb hK hP hD hS 29 2 rfl rfl in01 d_Law_old_15 (fun H locs hP hD hS => ?_)
      rw [wL_set] at hP
      refine lv_goto (tgt := 22) hx hb d_Law_old_16 (by decide) ?_
      refine lv_iconst (v := 0) hx hb d_Law_old_22 (by decide) ?_
      refine W.widen (k := 1) (n := 6) (by omega) (by omega) ?_
      exact W.toX (W.iret (v := 0) hx hb hr (fun t ht hW => ⟨by rw [show hv_old x a1 = 0 from if_pos hk], ⟨by rw [ht, show hs_old x a1 = x from if_pos hk, show ho_old x a1 fo = vp_updL fo (0 : Int32).toNatClampNeg 1 from by unfold ho_old; rw [if_pos hk, if_neg c_1]]; exact hP, va_K.moved hW.alike hK, hN.warm hW⟩, hS.F ht⟩) hS.2.2 d_Law_old_23)
  · have htq := t_Plan_old l htr dC dI cI cZ ad x hI a1 (by rw [hk]; decide)
    rw [hk] at htq
    refine x_caught (ns := [xnm 2]) (hpc := 19) (x_runV (C := "PlanRows") (b := ad 0) (As := [.int a1]) (rest := [.int 0, .ref (ad 29)]) ⟨hx, hb, hml, hown, hts⟩ htq (cw_Law_79 hts rfl rfl ⟨Nat.le_of_ble_eq_true rfl, Nat.le_of_ble_eq_true rfl⟩) ⟨PX.blind, va_recv hK2 hPc (ci := 8) (q0 := 0) rfl rfl, PX.at hE.1 hK2 hN hPc⟩ rfl rfl hl.1 rfl (lv_room (Nat.le_of_ble_eq_true rfl)) d_Law_old_4 ⟨Nat.le_of_ble_eq_true rfl, Nat.le_of_ble_eq_true rfl⟩) hown htab ⟨by decide, by decide, by decide, hbw _ w_227, Or.inl ⟨xn_cast hE.1 (by decide) (by decide), rfl⟩⟩ (fun xq H hz1 hk1 => ?_)
    have hP := wL_kept hP hk1
    have hS : va_S (aC 30 ad s.heap.size) s.heap H [] := ⟨hz1, fun q h1 _ => hk1 q h1, fun q hq => by cases hq⟩
    refine lv_astore_n (lv' := [(3, .ref xq), (0, .ref (ad 0)), (1, .int a1), (2, .ref (ad 29))]) hx hb d_Law_old_19 rfl hl (by decide) rfl (fun ls hl => ?_)
    refine lv_iconst (v := 1) hx hb d_Law_old_20 (by decide) ?_
    refine W.widen (k := 1) (n := 6) (by omega) (by omega) ?_
    exact W.toX (W.iret (v := 1) hx hb hr (fun t ht hW => ⟨by rw [show hv_old x a1 = 1 from by unfold hv_old; rw [hk]; rfl], ⟨by rw [ht, show hs_old x a1 = x from if_neg (by rw [hk]; decide), show ho_old x a1 fo = fo from if_neg (by rw [hk]; decide)]; exact hP, va_K.moved hW.alike hK, hN.warm hW⟩, hS.F ht⟩) hS.2.2 d_Law_old_21)
theorem kv_count (x : ST) (a1 : Int32) : k_Plan_count x a1 = 0 ∨ k_Plan_count x a1 = 1 := by
  unfold k_Plan_count
  repeat' split
  all_goals first | exact (Or.inl rfl) | exact (Or.inr rfl)
def hv_count (x : ST) (a1 : Int32) : Int32 := if k_Plan_count x a1 = 0 then 0 else  1
def hs_count (x : ST) (a1 : Int32) : ST := if k_Plan_count x a1 = 0 then x else x
def ho_count (x : ST) (a1 : Int32) (fo : Nat → Int64) : Nat → Int64 := if k_Plan_count x a1 = 0 then vp_updL fo (0 : Int32).toNatClampNeg ((f_Plan_count x a1).toInt64) else fo
set_option maxHeartbeats 400000 in
set_option maxRecDepth 100000 in
theorem h_count (l : Launch) (htr : l.stackTraces = false) (dC : Nat → ClassId) (dI : Nat → Nat → Nat) (cI cZ cL : ClassId) (ad : Nat → Nat) (hj : aInj 30 ad) (x : ST) (hI : CIn x) (fo : Nat → Int64) (sz : Nat) (a1 : Int32) : MX l y_Law_count (Cond.codeWith y_Law_count b_Law_count 4 (some .int) [(0, 9, 12, 13)] :: BW) { frames := 7, cells := 1, slots := 6, locals := 103 } (PL sz (dC, dI) [(cI, .int), (cZ, .boolean), (cL, .long)] (wL cI cZ cL ad x fo) [.ref (ad 0), .int a1, .ref (ad 29)]) (UQ (some (.int (hv_count x a1))) (WB (dC, dI) [(cI, .int), (cZ, .boolean), (cL, .long)] (wL cI cZ cL ad (hs_count x a1) (ho_count x a1 fo))) (aC 30 ad sz)) 1 6 (aC 30 ad sz) := by
  refine MX.ofWith (cc := b_Law_count) (maxL := 4) (ret := some .int) (hs := [(0, 9, 12, 13)]) (by decide) rfl ?_
  intro p e s m args below meth c s₁ B hml htab hv
  obtain ⟨hE, hsz, rfl, hP, hK, hN⟩ := hv
  subst hsz
  have hx := B.exec
  have hb := B.bytes
  have hr := B.returns
  have hts := atoms_spec (ws := Cond.codeWith y_Law_count b_Law_count 4 (some .int) [(0, 9, 12, 13)] :: BW) B.pre
  have hbw : ∀ w ∈ BW, w.before ([.ref (ad 0), .int a1, .ref (ad 29)]).toArray s = true := fun w h => hts w (List.mem_cons_of_mem _ h)
  have hown : s.vm.findClass "PlanRowsLaw" = some m.cls := findClass_of_methodNamed B.named
  have hlocks := B.notSynchronized
  have hK2 : va_K (dC, dI) clsA [(cI, .int), (cZ, .boolean)] s := hK.sub [0, 1] rfl
  have hPc := wL_C hP
  have hDx : ∀ z f, va_D (aC 30 ad s.heap.size) (wL cI cZ cL ad z f) := fun z f => w_D hj (wL_ad cI cZ cL ad z f) _
  have hS : va_S (aC 30 ad s.heap.size) s.heap s.heap [] := va_S.rf
  have hl := lv_entry ([.ref (ad 0), .int a1, .ref (ad 29)]) (n := 4) (Nat.le_of_ble_eq_true rfl)
  rw [lg_entry_eq]
  generalize (lg_sl ([.ref (ad 0), .int a1, .ref (ad 29)]) ++ List.replicate (4 - (lg_sl ([.ref (ad 0), .int a1, .ref (ad 29)])).length) Slot.unset).toArray = ls at hl ⊢
  have hl : lv_has ls 4 [(0, .ref (ad 0)), (1, .int a1), (2, .ref (ad 29))] := hl
  refine lv_aload_n hx hb d_Law_count_0 rfl (lv_at hl 2 rfl) ?_
  refine lv_iconst (v := 0) hx hb d_Law_count_1 (by decide) ?_
  refine lv_aload_n hx hb d_Law_count_2 rfl (lv_at hl 0 rfl) ?_
  refine lv_iload_n hx hb d_Law_count_3 rfl (lv_at hl 1 rfl) ?_
  rcases kv_count x a1 with hk | hk
  · refine x_pure (x_runV (C := "PlanRows") (b := ad 0) (As := [.int a1]) (rest := [.int 0, .ref (ad 29)]) ⟨hx, hb, hml, hown, hts⟩ (c_Plan_count l dC dI cI cZ ad x hI a1 hk) (cw_Law_83 hts rfl rfl ⟨Nat.le_of_ble_eq_true rfl, Nat.le_of_ble_eq_true rfl⟩) ⟨PC.blind, va_recv hK2 hPc (ci := 8) (q0 := 0) rfl rfl, PC.at hK2 hN hPc⟩ rfl rfl hl.1 rfl (lv_room (Nat.le_of_ble_eq_true rfl)) d_Law_count_4 ⟨Nat.zero_le _, Nat.zero_le _⟩) ?_
    refine lv_i2l hx hb d_Law_count_7 rfl ?_
    have hD := hDx x fo
    refine va_last hx hb hK hP hD hS 29 2 rfl rfl in01 d_Law_count_8 (fun H locs hP hD hS => ?_)
    rw [wL_set] at hP
    refine lv_goto (tgt := 15) hx hb d_Law_count_9 (by decide) ?_
    refine lv_iconst (v := 0) hx hb d_Law_count_15 (by decide) ?_
    refine W.widen (k := 1) (n := 6) (by omega) (by omega) ?_
    exact W.toX (W.iret (v := 0) hx hb hr (fun t ht hW => ⟨by rw [show hv_count x a1 = 0 from if_pos hk], ⟨by rw [ht, show hs_count x a1 = x from if_pos hk, show ho_count x a1 fo = vp_updL fo (0 : Int32).toNatClampNeg ((f_Plan_count x a1).toInt64) from if_pos hk]; exact hP, va_K.moved hW.alike hK, hN.warm hW⟩, hS.F ht⟩) hS.2.2 d_Law_count_16)
  · have htq := t_Plan_count l htr dC dI cI cZ ad x hI a1 (by rw [hk]; decide)
    rw [hk] at htq
    refine x_caught (ns := [xnm 1]) (hpc := 12) (x_runV (C := "PlanRows") (b := ad 0) (As := [.int a1]) (rest := [.int 0, .ref (ad 29)]) ⟨hx, hb, hml, hown, hts⟩ htq (cw_Law_83 hts rfl rfl ⟨Nat.le_of_ble_eq_true rfl, Nat.le_of_ble_eq_true rfl⟩) ⟨PX.blind, va_recv hK2 hPc (ci := 8) (q0 := 0) rfl rfl, PX.at hE.1 hK2 hN hPc⟩ rfl rfl hl.1 rfl (lv_room (Nat.le_of_ble_eq_true rfl)) d_Law_count_4 ⟨Nat.le_of_ble_eq_true rfl, Nat.le_of_ble_eq_true rfl⟩) hown htab ⟨by decide, by decide, by decide, hbw _ w_226, Or.inl ⟨xn_cast hE.1 (by decide) (by decide), rfl⟩⟩ (fun xq H hz1 hk1 => ?_)
    have hP := wL_kept hP hk1
    have hS : va_S (aC 30 ad s.heap.size) s.heap H [] := ⟨hz1, fun q h1 _ => hk1 q h1, fun q hq => by cases hq⟩
    refine lv_astore_n (lv' := [(3, .ref xq), (0, .ref (ad 0)), (1, .int a1), (2, .ref (ad 29))]) hx hb d_Law_count_12 rfl hl (by decide) rfl (fun ls hl => ?_)
    refine lv_iconst (v := 1) hx hb d_Law_count_13 (by decide) ?_
    refine W.widen (k := 1) (n := 6) (by omega) (by omega) ?_
    exact W.toX (W.iret (v := 1) hx hb hr (fun t ht hW => ⟨by rw [show hv_count x a1 = 1 from by unfold hv_count; rw [hk]; rfl], ⟨by rw [ht, show hs_count x a1 = x from if_neg (by rw [hk]; decide), show ho_count x a1 fo = fo from if_neg (by rw [hk]; decide)]; exact hP, va_K.moved hW.alike hK, hN.warm hW⟩, hS.F ht⟩) hS.2.2 d_Law_count_14)
