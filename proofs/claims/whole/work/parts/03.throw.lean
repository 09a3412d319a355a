/-! Methods that throw, calls of them, handlers: a contract MX says of both ends (returned, threw); XRun is a call with both ends; x_pure, x_thrown, x_caught go on behind it. -/
section XT
variable {p : Program} {l : Launch} {e : Env} {R : Room} {s : State} {m : MethodId} {args : Array Value} {below : List Frame} {meth : Method} {c : Code} {H : Heap} {locs : List Loc} {cells slots : Nat} {Q : State → Prop}
def xE (first t : State) (L : List Loc) (k n : Nat) : Prop := first.WarmedH t.vm ∧ first.sameButNew ({ t with vm := first.vm } : State) L k n
def MX (l : Launch) (y : MethodName) (ws : List Cond) (rm : Room) (Pc : Array Value → State → Prop) (Qc : Array Value → State → Outcome → State → Prop) (mc ms : Nat) (free : Addr → Prop) : Prop :=
  MetFree l y (headSpec ws rm) Pc (fun _ _ _ _ _ => True) (fun a st o t => Qc a st o t ∧ ∃ L, xE st t L mc ms ∧ ∀ q ∈ L, free q.base)
def MQX (below : List Frame) (Qc : Array Value → State → Outcome → State → Prop) (a : Array Value) (s : State) (mc ms : Nat) (free : Addr → Prop) : State → Prop := fun t =>
  ∃ o, t.status = .running ∧ Ended t below o ∧ Qc a s o t ∧ ∃ L, xE s t L mc ms ∧ ∀ q ∈ L, free q.base
theorem MX.of_met {y : MethodName} {ws : List Cond} {rm : Room} {Pc : Array Value → State → Prop} {Qc : Array Value → State → Outcome → State → Prop} {mc ms : Nat} {free : Addr → Prop} (h : Met l y ws rm Pc Qc mc ms free) : MX l y ws rm Pc Qc mc ms free :=
  MetFree.mono h (fun _ _ h => h) (fun _ _ _ _ _ h => h) (fun _ _ _ _ _ h => by obtain ⟨hq, L, hF, hL⟩ := h; exact ⟨hq, L, ⟨hF.2.1, hF.2.2⟩, hL⟩)
theorem W.mono {Q' : State → Prop} {g : JFrame} (h : ∀ t, Q t → Q' t) (w : W p l e R s m args below meth c H locs cells slots Q g) : W p l e R s m args below meth c H locs cells slots Q' g := fun T hT X => by
  obtain ⟨t, a, b⟩ := w T hT X
  exact ⟨t, a, h t b⟩
theorem W.toX {Qc : Array Value → State → Outcome → State → Prop} {mc ms : Nat} {free : Addr → Prop} {g : JFrame} (w : W p l e R s m args below meth c H locs cells slots (MQ below Qc args s mc ms free) g) : W p l e R s m args below meth c H locs cells slots (MQX below Qc args s mc ms free) g :=
  W.mono (fun t h => by obtain ⟨o, h1, h2, h3, L, hF, hL⟩ := h; exact ⟨o, h1, h2, h3, L, ⟨hF.2.1, hF.2.2⟩, hL⟩) w
theorem x_empty {c : Code} (h : c.exceptionTable.isEmpty = true) : c.exceptionTable.toList = [] := by
  have h0 : c.exceptionTable.size = 0 := by simpa [Array.isEmpty] using h
  exact List.eq_nil_of_length_eq_zero (by simpa using h0)
theorem MX.ofW {y : MethodName} {ws ws' : List Cond} {rm : Room} {Pc : Array Value → State → Prop} {Qc : Array Value → State → Outcome → State → Prop} {mc ms : Nat} {free : Addr → Prop} {cc : ByteArray} {maxL : Nat} {ret : Option FieldType}
    (hy : plainName y.cls = true) (hw : ws = Cond.code y cc maxL ret :: ws')
    (body : ∀ p e s m args below meth c s₁, BodyLoose p l y (headSpec ws rm) cc maxL ret e s m args below meth c s₁ → c.maxLocals = maxL → c.exceptionTable.toList = [] → Pc args s →
      W p l e (headSpec ws rm).room s m args below meth c s.heap [] 0 0 (MQX below Qc args s mc ms free) (entryFrame m args maxL)) : MX l y ws rm Pc Qc mc ms free := by
  refine MetFree.of_bodyS (code := cc) (maxLocals := maxL) (ret := ret) hy ?_ ?_
  · intro args s m h hn
    obtain ⟨meth, c, h1, h2, h3, h4, h5, h6, -, -⟩ := Cond.code_spec hn (atoms_spec (ws := ws) h _ (by rw [hw]; exact List.mem_cons_self))
    exact ⟨meth, c, h1, h2, h3, h4, h5, h6⟩
  · intro p e s m args below meth c s₁ B hml hP _
    have hh0 : s₁.heap = s.heap := by rw [B.state]; rfl
    have hno := B.noHandlers (atoms_spec (ws := ws) B.pre _ (by rw [hw]; exact List.mem_cons_self))
    obtain ⟨t, a1, o, b1, b2, b3⟩ := body p e s m args below meth c s₁ B hml (x_empty hno) hP s₁ hh0 (Stand.of_body B)
    exact ⟨t, o, a1, b1, b2, ⟨b3.1, b3.2⟩⟩
theorem MX.ofWith {y : MethodName} {ws ws' : List Cond} {rm : Room} {Pc : Array Value → State → Prop} {Qc : Array Value → State → Outcome → State → Prop} {mc ms : Nat} {free : Addr → Prop} {cc : ByteArray} {maxL : Nat} {ret : Option FieldType} {hs : List (Nat × Nat × Nat × Nat)}
    (hy : plainName y.cls = true) (hw : ws = Cond.codeWith y cc maxL ret hs :: ws')
    (body : ∀ p e s m args below meth c s₁, BodyLoose p l y (headSpec ws rm) cc maxL ret e s m args below meth c s₁ → c.maxLocals = maxL → c.exceptionTable.toList = tableOf hs → Pc args s →
      W p l e (headSpec ws rm).room s m args below meth c s.heap [] 0 0 (MQX below Qc args s mc ms free) (entryFrame m args maxL)) : MX l y ws rm Pc Qc mc ms free := by
  refine MetFree.of_bodyS (code := cc) (maxLocals := maxL) (ret := ret) hy ?_ ?_
  · intro args s m h hn
    obtain ⟨m', meth, c, hn', h1, h2, h3, h4, -, h5, h6, -⟩ := Cond.codeWith_spec (atoms_spec (ws := ws) h _ (by rw [hw]; exact List.mem_cons_self))
    cases hn.symm.trans hn'
    exact ⟨meth, c, h1, h2, h3, h4, h5, h6⟩
  · intro p e s m args below meth c s₁ B hml hP _
    have hh0 : s₁.heap = s.heap := by rw [B.state]; rfl
    obtain ⟨m', meth', c', hn', hm', hc', -, -, ht', -, -, -⟩ := Cond.codeWith_spec (atoms_spec (ws := ws) B.pre _ (by rw [hw]; exact List.mem_cons_self))
    cases B.named.symm.trans hn'
    cases B.method.symm.trans hm'
    cases (Stand.of_body B).code.symm.trans hc'
    obtain ⟨t, a1, o, b1, b2, b3⟩ := body p e s m args below meth c s₁ B hml (by rw [← ht', table_eq]) hP s₁ hh0 (Stand.of_body B)
    exact ⟨t, o, a1, b1, b2, ⟨b3.1, b3.2⟩⟩
/-- a call, both ends -/
def XRun (p : Program) (l : Launch) (e : Env) (R : Room) (s : State) (m : MethodId) (args : Array Value) (below : List Frame) (meth : Method) (c : Code) (H : Heap) (locs : List Loc) (cells slots mc ms : Nat) (g : JFrame) (rest : List Value) (Qa : State → Outcome → State → Prop) (free : Addr → Prop) : Prop :=
  ∀ T : State, T.heap = H → Stand p l e R s m args below meth c T locs cells slots → ∃ (o : Outcome) (st₀ t T' : State) (L : List Loc), st₀.heap = H ∧ Stand p l e R s m args below meth c T' (locs ++ L) (cells + mc) (slots + ms) ∧ (∀ q ∈ L, free q.base) ∧ T'.heap = t.heap ∧ T'.vm = t.vm ∧ Qa st₀ o t ∧
    ((∃ v, o = .returned v ∧ Goes p e below T g T' { g with pc := g.pc + 3, stack := v.toList ++ rest }) ∨
     (∃ x, o = .threw x ∧ ∀ tg, Steps p.tables e below ((T'.setTop { g with stack := rest }).pushFrame (.throwing x)) tg → Steps p.tables e below (T.setTop g) tg))
theorem xback {T : State} {y : MethodName} {ws : List Cond} {rm : Room} {Pc : Array Value → State → Prop} {Qc : Array Value → State → Outcome → State → Prop} {mc ms maxL : Nat} {free : Addr → Prop}
    (X : Stand p l e R s m args below meth c T locs cells slots) (hM : MX l y ws rm Pc Qc mc ms free) (hbl : FrameBlind Pc) (hrc : rm.cells = mc) (hrs : rm.slots = ms) (hfr : rm.frames + 1 ≤ R.frames)
    {g : JFrame} (hg : g.method = m) (hsize : g.locals.size = c.maxLocals) {ig : Instr} (hdg : decode c.code g.pc = .ok (ig, 3)) (hlo : 2 * g.monitorRoom + (g.stack.map fun v => v.category).sum + (maxL + 11) + rm.locals ≤ R.locals) (hcells : cells + mc ≤ R.cells) (hslots : slots + ms ≤ R.slots)
    {mk : MethodId} {a : Array Value} (hn : T.methodNamed? y = some mk) (hws : ∀ w ∈ ws, w.before a T = true) (hini : (Cond.initialized y.cls).before a T = true)
    {methk : Method} {ck : Code} (hmk : T.vm.method? mk = some methk) (hck : methk.code = some ck) (hlk : ck.maxLocals = maxL) (hPc : Pc a T) :
    ∃ (o : Outcome) (t T' : State) (L : List Loc), Stand p l e R s m args below meth c T' (locs ++ L) (cells + mc) (slots + ms) ∧ (∀ q ∈ L, free q.base) ∧ T'.heap = t.heap ∧ T'.vm = t.vm ∧ Qc a (T.calling g mk a) o t ∧
      ((∃ v, o = .returned v ∧ Steps p.tables e below (doInvoke e (T.setTop g) [] mk a).1 (T'.setTop { g with pc := g.pc + 3, stack := v.toList ++ g.stack })) ∨ (∃ x, o = .threw x ∧ Steps p.tables e below (doInvoke e (T.setTop g) [] mk a).1 ((T'.setTop g).pushFrame (.throwing x)))) := by
  obtain ⟨kY, hkY, -⟩ := className_of_methodNamed hn
  have hinitY : kY.init = .initialized := Cond.initialized_spec (findClass_of_methodNamed hn) hkY hini
  have h : At T g.method c below := by rw [hg]; exact X.here
  have happ : (headSpec ws rm).appliesLoose y e.platform (T.calling g mk a) = true :=
    Spec.appliesLoose_calling (g := g) h hdg hn hkY hinitY
      (X.room_calling (g := g) (R' := rm) hsize hmk hck hfr (by rw [hlk]; exact hlo) (by rw [hrc]; exact hcells) (by rw [hrs]; exact hslots)) (atoms_intro hws)
  obtain ⟨mid, hmid⟩ := h.above
  have hfr' : (T.setTop g).frames = (.java g :: mid) ++ below := by rw [State.frames_setTop' g h.top, hmid]; rfl
  obtain ⟨o, t, hsteps, -, hend, hq, L, hE, hL⟩ := Steps.callFree hM p X.admits X.cas X.clock (acts := []) hfr' happ (hbl _ _ _ _ hPc) trivial
  rw [State.frames_setTop' g h.top, X.tail] at hend
  cases o with
  | returned v =>
    obtain ⟨T', X', -, -, ht⟩ := X.outOf hg hdg hend hE.1 hE.2
    exact ⟨_, t, T', L, X', hL, by rw [ht]; rfl, by rw [ht]; rfl, hq, Or.inl ⟨v, rfl, ht ▸ hsteps⟩⟩
  | threw x =>
    obtain ⟨T', X', -, -, ht⟩ := X.outOfThrown hg hend hE.1 hE.2
    exact ⟨_, t, T', L, X', hL, by rw [ht]; rfl, by rw [ht]; rfl, hq, Or.inr ⟨x, rfl, ht ▸ hsteps⟩⟩
variable {y : MethodName} {bytes cc : ByteArray} {maxL nL mc ms n index : Nat} {ret : Option FieldType} {ws : List Cond} {rm : Room} {Pc : Array Value → State → Prop} {Qc : Array Value → State → Outcome → State → Prop} {free : Addr → Prop} {Ts : List Cond} {own C : String} {b : Addr} {As rest : List Value} {g : JFrame}
theorem x_runV (S : CallFix p m c cc nL s args Ts own) (hM : MX l y ws rm Pc Qc mc ms free) (cw : CallW R s args own C index y bytes maxL ret ws rm mc ms n) (hp : PreV s H C b Pc As)
    (hg : g.method = m) (hn : As.length = n) (hsize : g.locals.size = nL) (hstack : g.stack = As.reverse ++ .ref b :: rest) (hW : 2 * g.monitorRoom + (rest.map fun v => v.category).sum ≤ 8) (hdg : decode cc g.pc = .ok (.invokevirtual index, 3)) (hf : cells + mc ≤ R.cells ∧ slots + ms ≤ R.slots) :
    XRun p l e R s m args below meth c H locs cells slots mc ms g rest (Qc (Value.ref b :: As).toArray) free := by
  obtain ⟨⟨hrc, hrs, hfr, hlo, hws, hcw, hcode, hini, hy, hlen, hl⟩, hinst, hsel⟩ := cw
  obtain ⟨hx, hb, hml, ho, -⟩ := S
  obtain ⟨hbl, ⟨cellB, hcB, hoB, hclB⟩, hPc⟩ := hp
  intro T hT X
  obtain ⟨mk, methM, hnamed, hmethM, hstM, habM⟩ := Cond.instanceMethod_spec hinst
  obtain ⟨methM', cM, hmethM', hcM, -, hlM, -, -, -, hsigM⟩ := Cond.code_spec hnamed hcode
  cases hmethM.symm.trans hmethM'
  obtain ⟨c2, r2, m2, q1, q2, q3, q4, kP, hkP, hkPi⟩ := Cond.selects_spec hsel
  cases hclB.symm.trans q1
  cases (State.methodFound?_of_named hnamed hy).symm.trans q2
  cases hnamed.symm.trans q3
  have hselP : selectMethod e.platform s.vm cellB.cls mk = .method mk := by rw [Launch.admits_selectMethod X.admits]; exact q4
  obtain ⟨vm₁, X₁, hstep₁⟩ := X.invokevirtual hx ho hl hnamed hmethM hstM hkP hkPi hy (a := b) (cell := cellB) (by rw [hT]; exact hcB)
    (fun z h => by rw [h] at hoB; cases hoB) hselP hmethM habM hkP hkPi (g := g) hg (argsL := As) (rest := rest) (hn.trans (hlen _ hsigM)) hstack (by rw [hb]; exact hdg)
  have hmk₁ : (T.setVm vm₁).vm.method? mk = some methM := by rw [X₁.warmed.alike.method?]; exact hmethM
  obtain ⟨o, t, T', L, X', hL, e1, e2, hq, hst⟩ := xback (a := (Value.ref b :: As).toArray) X₁ hM hbl hrc hrs hfr (g := { g with stack := rest }) hg (hsize.trans hml.symm) (by rw [hb]; exact hdg) (by show 2 * g.monitorRoom + (rest.map _).sum + _ + _ ≤ _; omega) hf.1 hf.2 (X₁.named hnamed)
    (fun w hw => hws w hw _ _ X₁.warmed) (word_at X₁.warmed (Or.inl (by first | rfl | simp [Cond.onTables, Cond.keeps, Cond.steady])) hini) hmk₁ hcM hlM (hPc (T.setVm vm₁) hT X₁.warmed)
  refine ⟨o, (T.setVm vm₁).calling { g with stack := rest } mk (Value.ref b :: As).toArray, t, T', L, hT, X', hL, e1, e2, hq, ?_⟩
  rcases hst with ⟨v, rfl, hst⟩ | ⟨x, rfl, hst⟩
  · exact Or.inl ⟨v, rfl, fun tg h => hstep₁ _ fun acts => by rw [doInvoke_state]; exact hst.trans h⟩
  · exact Or.inr ⟨x, rfl, fun tg h => hstep₁ _ fun acts => by rw [doInvoke_state]; exact hst.trans h⟩
theorem x_runS (S : CallFix p m c cc nL s args Ts own) (hM : MX l y ws rm Pc Qc mc ms free) (cw : CallB R s args own index y bytes maxL ret ws rm mc ms n ∧ (Cond.static y).before args s = true) (hp : PreS s H Pc As)
    (hg : g.method = m) (hn : As.length = n) (hsize : g.locals.size = nL) (hstack : g.stack = As.reverse ++ rest) (hW : 2 * g.monitorRoom + (rest.map fun v => v.category).sum ≤ 8) (hdg : decode cc g.pc = .ok (.invokestatic index, 3)) (hf : cells + mc ≤ R.cells ∧ slots + ms ≤ R.slots) :
    XRun p l e R s m args below meth c H locs cells slots mc ms g rest (Qc As.toArray) free := by
  obtain ⟨⟨hrc, hrs, hfr, hlo, hws, hcw, hcode, hini, hy, hlen, hl⟩, hstat⟩ := cw
  obtain ⟨hx, hb, hml, ho, -⟩ := S
  obtain ⟨hbl, hPc⟩ := hp
  intro T hT X
  obtain ⟨mk, hnamed⟩ := Cond.code_named hcode
  obtain ⟨methM, cM, hmethM, hcM, -, hlM, -, -, -, hsigM⟩ := Cond.code_spec hnamed hcode
  have hstatic : methM.isStatic = true := Cond.static_spec hnamed hmethM hstat
  obtain ⟨kP, hkP, -⟩ := className_of_methodNamed hnamed
  have hinitP : kP.init = .initialized := Cond.initialized_spec (findClass_of_methodNamed hnamed) hkP hini
  obtain ⟨vm₁, X₁, hstep₁⟩ := X.invokestatic hx ho hl hnamed hmethM hstatic hkP hinitP hy (g := g) hg (argsL := As) (rest := rest) (hn.trans (hlen _ hsigM)) hstack (by rw [hb]; exact hdg)
  have hmk₁ : (T.setVm vm₁).vm.method? mk = some methM := by rw [X₁.warmed.alike.method?]; exact hmethM
  obtain ⟨o, t, T', L, X', hL, e1, e2, hq, hst⟩ := xback (a := As.toArray) X₁ hM hbl hrc hrs hfr (g := { g with stack := rest }) hg (hsize.trans hml.symm) (by rw [hb]; exact hdg) (by show 2 * g.monitorRoom + (rest.map _).sum + _ + _ ≤ _; omega) hf.1 hf.2 (X₁.named hnamed)
    (fun w hw => hws w hw _ _ X₁.warmed) (word_at X₁.warmed (Or.inl (by first | rfl | simp [Cond.onTables, Cond.keeps, Cond.steady])) hini) hmk₁ hcM hlM (hPc (T.setVm vm₁) hT X₁.warmed)
  refine ⟨o, (T.setVm vm₁).calling { g with stack := rest } mk As.toArray, t, T', L, hT, X', hL, e1, e2, hq, ?_⟩
  rcases hst with ⟨v, rfl, hst⟩ | ⟨x, rfl, hst⟩
  · exact Or.inl ⟨v, rfl, fun tg h => hstep₁ _ fun acts => by rw [doInvoke_state]; exact hst.trans h⟩
  · exact Or.inr ⟨x, rfl, fun tg h => hstep₁ _ fun acts => by rw [doInvoke_state]; exact hst.trans h⟩
end XT
/-- a pure end: this answer, the heap as it was -/
def PQ (v : Option Value) : Array Value → State → Outcome → State → Prop := fun _ st o t => o = .returned v ∧ t.heap = st.heap
def xO (X : String) (x : Addr) (t : State) (H : Heap) : Prop := ∃ cell : Cell, H[x]? = some cell ∧ cell.vm.isStatics = false ∧ t.vm.findClass X = some cell.cls
/-- it throws an object of X, which is new; every old cell is as it was -/
def TQ (X : String) : Array Value → State → Outcome → State → Prop := fun _ st o t => ∃ x : Addr, o = .threw x ∧ xO X x t t.heap ∧ st.heap.size ≤ t.heap.size ∧ ∀ q : Nat, q < st.heap.size → t.heap[q]? = st.heap[q]?
section XC
variable {p : Program} {l : Launch} {e : Env} {R : Room} {s : State} {m : MethodId} {args : Array Value} {below : List Frame} {meth : Method} {c : Code} {H : Heap} {locs : List Loc} {cells slots : Nat} {Q : State → Prop}
variable {pc : Nat} {ls : Array Slot} {rest st0 : List Value} {a : Array Value}
theorem x_pure {v : Option Value} (hr : XRun p l e R s m args below meth c H locs cells slots 0 0 (F0 m pc ls st0) rest (PQ v a) (fun _ => False))
    (kk : W p l e R s m args below meth c H locs cells slots Q (F0 m (pc + 3) ls (v.toList ++ rest))) : W p l e R s m args below meth c H locs cells slots Q (F0 m pc ls st0) := by
  intro T hT X
  obtain ⟨o, st₀, t, T', L, h0, X', hL, e1, e2, ⟨ho, hh⟩, hst⟩ := hr T hT X
  rcases hst with ⟨v', hv, hst⟩ | ⟨x, hx, -⟩
  · rw [ho] at hv
    cases hv
    obtain ⟨t2, a1, b1⟩ := kk T' (by rw [e1, hh, h0]) (Stand.forget X' (fun q h => (hL q h).elim))
    exact ⟨t2, hst t2 a1, b1⟩
  · rw [ho] at hx
    cases hx
/-- a call that throws, in a method without a handler there that has changed nothing: it throws on -/
theorem x_thrown {Xn : String} (hr : XRun p l e R s m args below meth c s.heap [] 0 0 1 6 (F0 m pc ls st0) rest (TQ Xn a) (fun _ => False)) (hout : c.exceptionTable.toList = []) (hlocks : meth.locks = false) :
    W p l e R s m args below meth c s.heap [] 0 0 (MQX below (TQ Xn) args s 1 6 (fun _ => False)) (F0 m pc ls st0) := by
  intro T hT X
  obtain ⟨o, st₀, t, T', L, h0, X', hL, e1, e2, ⟨x, ho, hO, hsz, hk⟩, hst⟩ := hr T hT X
  rcases hst with ⟨v', hv, -⟩ | ⟨x', hx, hst⟩
  · rw [ho] at hv; cases hv
  · rw [ho] at hx
    cases hx
    have X2 : Stand p l e R s m args below meth c T' [] (0 + 1) (0 + 6) := Stand.forget X' (fun q h => (hL q h).elim)
    obtain ⟨h1, h2, h3, h4, h5⟩ := X2.leaveThrown x (g := F0 m pc ls rest) rfl rfl rfl (by rw [hout]; intro z hz; cases hz) hlocks
    refine ⟨_, hst _ h1, .threw x, h2, h3, ⟨x, rfl, ?_, ?_, ?_⟩, [], ⟨h4, h5⟩, fun q hq => by cases hq⟩
    · obtain ⟨cell, g1, g2, g3⟩ := hO
      exact ⟨cell, by show T'.heap[x]? = _; rw [e1]; exact g1, g2, by show T'.vm.findClass Xn = _; rw [e2]; exact g3⟩
    · show s.heap.size ≤ T'.heap.size
      rw [e1, ← h0]; exact hsz
    · intro q hq
      show T'.heap[q]? = _
      rw [e1, hk q (by rw [h0]; exact hq), h0]
end XC
section XN
variable {p : Program} {l : Launch} {e : Env} {R : Room} {s : State} {m : MethodId} {args : Array Value} {below : List Frame} {meth : Method} {c : Code} {H : Heap} {locs : List Loc} {cells slots : Nat} {Q : State → Prop}
variable {pc nL : Nat} {ls : Array Slot} {rest st0 : List Value} {a : Array Value} {cc : ByteArray}
/-- new X; dup; ldc; X.<init>(String); athrow: in a method without handlers that has changed nothing -/
theorem x_throw (hx : p.tables.exec = Jvm.exec) (hb : c.code = cc) (htr : l.stackTraces = false) {own Xn tx : String} {names : List String} {ia ib ic qs : Nat} (hown : s.vm.findClass own = some m.cls) (hcls : Bundle.fit Xn = true) (hnames : ∀ n ∈ names, Bundle.fit n = true)
    (hat : ∀ w ∈ Bundle.ownAtoms own ic Xn names, w.before args s = true) (hcl : (Cond.classLink own ia Xn).before args s = true) (hini : (Cond.initialized Xn).before args s = true) (hZ : vk_R own ib tx qs s)
    (hout : c.exceptionTable.toList = []) (hml : c.maxLocals = nL) (hls : ls.size = nL) (hlocks : meth.locks = false)
    (d0 : decode cc pc = .ok (.new ia, 3)) (d3 : decode cc (pc + 3) = .ok (.dup, 1)) (d4 : decode cc (pc + 4) = .ok (.ldc ib, 2)) (d6 : decode cc (pc + 6) = .ok (.invokespecial ic, 3)) (d9 : decode cc (pc + 9) = .ok (.athrow, 1))
    (hRc : 1 ≤ R.cells) (hRs : 6 ≤ R.slots) (hRf : names.length + 3 < R.frames) (hRl : 1 + (13 * (names.length + 1) + 42) ≤ R.locals) :
    W p l e R s m args below meth c s.heap [] 0 0 (MQX below (TQ Xn) args s 1 6 (fun _ => False)) (F0 m pc ls []) := by
  refine W.newc hx hb (own := own) (C := Xn) (index := ia) (n := 6) hown hcl (hat (.instantiable Xn 6) (by simp [Bundle.ownAtoms])) hini (g := F0 m pc ls []) rfl d0 (by omega) (by omega) (fun cX kX hfX hkX hord h6 => ?_)
  refine lv_dup (pc := pc + 3) hx hb d3 rfl ?_
  refine va_ldcS (pc := pc + 4) hx hb hown hZ d4 ?_
  intro T hT XS
  have hcell : T.heap[s.heap.size]? = some (freshCell cX kX) := by rw [hT]; simp
  obtain ⟨U, hsteps, hrun, hend, hW, hsame, ce, hce, K⟩ := XS.ctorThrowS hx (by rw [XS.admits.platform]; exact htr) (own := own) (cls := Xn) (names := names) (ic := ic) hown hcls hnames hat (fun y hy => by cases hy) hfX hkX (a := s.heap.size) hcell (Nat.le_refl _) (msg := .ref qs) rfl
    (g := F0 m (pc + 6) ls [.ref qs, .ref s.heap.size, .ref s.heap.size]) rfl (by rw [hml]; exact hls) rfl rfl (rest := []) rfl (by rw [hb]; exact d6) (by rw [hb]; exact d9) (by rw [hout]; intro z hz; cases hz) hRf (by simpa [Value.category] using hRl) hlocks
  refine ⟨U, hsteps, .threw s.heap.size, hrun, hend, ⟨s.heap.size, rfl, ⟨ce, hce, by rw [K.vm]; rfl, ?_⟩, hsame.2.1, fun q hq => ?_⟩, [], ⟨hW, ?_⟩, fun q hq => by cases hq⟩
  · rw [hW.alike.findClass]; exact K.cls
  · exact (State.sameButNew.old_cell hsame (Array.getElem?_eq_getElem hq)).trans (Array.getElem?_eq_getElem hq).symm
  · exact hsame
/-! the search for a handler, its rows' types resolved or not -/
theorem x_go_cold {E : CtlPost} {d : Bool} {acts : List Action} {U : State} {f : JFrame} {x : Addr} {Qh : Handler → Pre} {z : ExceptionTableEntry} {zs : List ExceptionTableEntry} {cz : ClassId} {cell : Cell} {vm' : Vm} (hz : covers z f.pc = true) (h0 : z.catchType ≠ 0)
    (hg : (Jvm.resolveClass f.method.cls z.catchType).Gives e.toSetting U.vm (.ok cz) vm') (hsz : vm'.classes.size ≤ U.vm.classes.size) (hcell : U.heap[x]? = some cell) (hobj : ∀ k, cell.vm ≠ .statics k)
    (hk : ∃ k, vm'.classes[cell.cls]? = some k) (hc : ∃ k, vm'.classes[cz]? = some k) :
    wp (findHandler.go f x (z :: zs)) Qh E e d acts U ↔ if vm'.assignable cell.cls cz = true then Qh (.found z.handlerPc) d acts (U.setVm vm') else wp (findHandler.go f x zs) Qh E e d acts (U.setVm vm') := by
  simp only [covers] at hz
  obtain ⟨ha, ht⟩ := hg.op (op := VmOp.resolveClass f.method.cls z.catchType) rfl
  cases hfit : vm'.assignable cell.cls cz <;>
    simp [findHandler.go, hz, h0, ha, ht, hsz, hcell, hobj, hk, hc, hfit, VmOp.dirties, VmOp.acts]
/-- the entries, each with the class that it names: those before the last are passed, the last one takes it -/
def xCat (s : State) (args : Array Value) (own Xn : String) (pc hpc : Nat) : List (Nat × Nat × Nat × Nat) → List String → Prop
  | z :: zs, n :: ns => z.1 ≤ pc ∧ pc < z.2.1 ∧ z.2.2.2 ≠ 0 ∧ (Cond.classLink own z.2.2.2 n).before args s = true ∧ (((Cond.castable Xn n).before args s = true ∧ z.2.2.1 = hpc) ∨ (va_Nc Xn n s ∧ xCat s args own Xn pc hpc zs ns))
  | _, _ => False
theorem x_find {own Xn : String} {f : JFrame} {x : Addr} {hpc : Nat} (hpl : e.platform.magicAccessors = ({} : Platform).magicAccessors) (hown : s.vm.findClass own = some f.method.cls) :
    ∀ (zs : List (Nat × Nat × Nat × Nat)) (ns : List String) (U : State), s.WarmedH U.vm → xO Xn x s U.heap → xCat s args own Xn f.pc hpc zs ns →
      ∃ vm', s.WarmedH vm' ∧ ∀ (Qh : Handler → Pre) (E : CtlPost) (d : Bool) (acts : List Action), wp (findHandler.go f x (tableOf zs)) Qh E e d acts U ↔ Qh (.found hpc) d acts (U.setVm vm') := by
  intro zs
  induction zs with
  | nil => intro ns U _ _ h; cases ns <;> exact h.elim
  | cons z zs ih =>
    intro ns U hW hO h
    cases ns with
    | nil => exact h.elim
    | cons n ns =>
      obtain ⟨h1, h2, h3, h4, h5⟩ := h
      obtain ⟨cell, g1, g2, g3⟩ := hO
      obtain ⟨cT, hcT, hcl⟩ := Cond.classLink_spec hown h4 e.platform hpl
      obtain ⟨dk, _, _, kt, hd, _, _, _, _, hkt, _, hres⟩ := hcl.here
      have hcl₀ := hW.classLinks hcl
      have hW' : s.WarmedH (U.vm.noted f.method.cls z.2.2.2 (.cls cT)) := hW.noted hd hres (State.rightAt_cls hcl)
      obtain ⟨ks, hks, -⟩ := Vm.findClass_spec g3
      obtain ⟨ks', hks', -⟩ := hW'.alike.2.2 _ _ hks
      obtain ⟨kt', hkt', -⟩ := hW'.alike.2.2 _ _ hkt
      have hgo : ∀ (Qh : Handler → Pre) (E : CtlPost) (d : Bool) (acts : List Action), _ := fun Qh E d acts =>
        x_go_cold (e := e) (E := E) (d := d) (acts := acts) (U := U) (f := f) (x := x) (Qh := Qh) (z := ⟨z.1, z.2.1, z.2.2.1, z.2.2.2⟩) (zs := tableOf zs) (cz := cT) (cell := cell) (by simp [covers, h1, h2]) h3
          (resolveClass_links e.toSetting hcl₀) (by no_record) g1 (VmData.noStatics_of g2) ⟨ks', hks'⟩ ⟨kt', hkt'⟩
      rcases h5 with ⟨h5, h6⟩ | ⟨h5, h6⟩
      · obtain ⟨c1, c2, f1, f2, f3⟩ := Cond.castable_spec h5
        cases f1.symm.trans g3
        cases f2.symm.trans hcT
        refine ⟨_, hW', fun Qh E d acts => (hgo Qh E d acts).trans ?_⟩
        rw [if_pos (by rw [hW'.alike.assignable]; exact f3)]
        show Qh (.found z.2.2.1) d acts _ ↔ _
        rw [h6]
      · obtain ⟨c1, c2, f1, f2, f3⟩ := h5
        cases f1.symm.trans g3
        cases f2.symm.trans hcT
        obtain ⟨vm', hW2, hfin⟩ := ih ns (U.setVm (U.vm.noted f.method.cls z.2.2.2 (.cls cT))) hW' ⟨cell, g1, g2, g3⟩ h6
        refine ⟨vm', hW2, fun Qh E d acts => (hgo Qh E d acts).trans ?_⟩
        rw [if_neg (by rw [hW'.alike.assignable, f3]; decide)]
        exact hfin Qh E d acts
theorem x_stepCatch {U U' : State} {x : Addr} {f : JFrame} {r : List Frame} {hpc : Nat} (hfind : ∀ (Qh : Handler → Pre) (E : CtlPost) (d : Bool) (acts : List Action), wp (findHandler f x) Qh E e d acts U ↔ Qh (.found hpc) d acts U') :
    (stepThrowing e U x (.java f :: r)).Is (U'.setFrames (.java { f with pc := hpc, stack := [.ref x] } :: r)) [] := by
  simp only [stepThrowing, searchFrame, vmDo]
  generalize hr : Sem.go _ e false [] U = res
  obtain ⟨as, rfl, ha⟩ := Sem.eq_ok_of hr (a := Handler.found hpc) (s' := U') (acts' := []) (by simp [hfind _ _ _ _])
  exact ⟨rfl, ha⟩
theorem x_stepsCatch {tb : Tables} {T target : State} {x : Addr} {g : JFrame} {hpc : Nat} {vm' : Vm} (h : At T g.method c below) (hfind : ∀ (Qh : Handler → Pre) (E : CtlPost) (d : Bool) (acts : List Action), wp (findHandler g x) Qh E e d acts ((T.setTop g).pushFrame (.throwing x)) ↔ Qh (.found hpc) d acts (((T.setTop g).pushFrame (.throwing x)).setVm vm'))
    (hrest : Steps tb e below ((T.setVm vm').setTop { g with pc := hpc, stack := [.ref x] }) target) : Steps tb e below ((T.setTop g).pushFrame (.throwing x)) target := by
  obtain ⟨hgo, hw⟩ := h.throwing x
  refine Steps.head hgo hw ?_
  rw [stepThread_throwing (frames_entered h.top _), (x_stepCatch (U := (T.setTop g).pushFrame (.throwing x)) hfind).1]
  obtain ⟨g₀, hg⟩ := Option.isSome_iff_exists.mp h.top
  obtain ⟨r, hr⟩ := State.topJava?_eq_some.mp hg
  have hr' : (T.setVm vm').frames = .java g₀ :: r := hr
  rw [State.setTop_of_frames _ hr'] at hrest
  have e1 : (((T.setTop g).pushFrame (.throwing x)).setVm vm').setFrames (.java { g with pc := hpc, stack := [.ref x] } :: T.frames.tail) = (T.setVm vm').setFrames (.java { g with pc := hpc, stack := [.ref x] } :: r) := by
    rw [hr]
    show (((T.setTop g).pushFrame (.throwing x)).setFrames _).setVm vm' = (T.setFrames _).setVm vm'
    rw [State.pushFrame, State.setFrames_setFrames, State.setTop_of_frames _ hr, State.setFrames_setFrames]
    rfl
  rw [e1]
  exact hrest
/-- a call that throws, where a handler takes it -/
theorem x_caught {Xn own : String} {hs : List (Nat × Nat × Nat × Nat)} {ns : List String} {hpc : Nat} (hr : XRun p l e R s m args below meth c H locs cells slots 1 6 (F0 m pc ls st0) rest (TQ Xn a) (fun _ => False)) (hown : s.vm.findClass own = some m.cls) (htab : c.exceptionTable.toList = tableOf hs)
    (hcat : xCat s args own Xn pc hpc hs ns)
    (kk : ∀ (x : Addr) (H1 : Heap), H.size ≤ H1.size → (∀ q : Nat, q < H.size → H1[q]? = H[q]?) → W p l e R s m args below meth c H1 locs (cells + 1) (slots + 6) Q (F0 m hpc ls [.ref x])) : W p l e R s m args below meth c H locs cells slots Q (F0 m pc ls st0) := by
  intro T hT X
  obtain ⟨o, st₀, t, T', L, h0, X', hL, e1, e2, ⟨x, ho, hO, hsz, hk⟩, hst⟩ := hr T hT X
  rcases hst with ⟨v', hv, -⟩ | ⟨x', hx, hst⟩
  · rw [ho] at hv; cases hv
  · rw [ho] at hx
    cases hx
    have X2 : Stand p l e R s m args below meth c T' locs (cells + 1) (slots + 6) := Stand.forget X' (fun q h => (hL q h).elim)
    have hpl : e.platform.magicAccessors = ({} : Platform).magicAccessors := by rw [X2.admits.platform]
    obtain ⟨cell, g1, g2, g3⟩ := hO
    have hO' : xO Xn x s ((T'.setTop (F0 m pc ls rest)).pushFrame (.throwing x)).heap := by
      rw [Stand.throwing_heap]
      exact ⟨cell, by rw [e1]; exact g1, g2, by rw [← X2.warmed.alike.findClass, e2]; exact g3⟩
    obtain ⟨vm', hW', hfin⟩ := x_find (e := e) (f := F0 m pc ls rest) hpl hown hs ns ((T'.setTop (F0 m pc ls rest)).pushFrame (.throwing x)) (by rw [Stand.throwing_vm]; exact X2.warmed) hO' hcat
    obtain ⟨t2, a1, b1⟩ := kk x T'.heap (by rw [e1, ← h0]; exact hsz) (fun q hq => by rw [e1, hk q (by rw [h0]; exact hq), h0]) (T'.setVm vm') rfl (X2.noted hW')
    refine ⟨t2, hst t2 (x_stepsCatch X2.here (fun Qh E d acts => ?_) a1), b1⟩
    rw [Jvm.W.findHandler_eq (meth := meth) (code := c) (by rw [Stand.throwing_vm]; exact X2.method') X2.code, htab]
    exact hfin Qh E d acts
end XN
