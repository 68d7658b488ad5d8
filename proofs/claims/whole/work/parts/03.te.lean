/-! te_: methods that throw. A second judgement beside Met: from every state where the words hold and 'Pc args s', the method throws an object of the kind C (made by it), and nothing old has changed. Rows: a throw of a new object out of a method without handlers; a callee that threw, out of this method; a callee that threw, into this method's own handler. -/
def te_End (C : String) (s : State) (o : Outcome) (t : State) (k n : Nat) : Prop :=
  ∃ (a : Addr) (cell : Cell), o = .threw a ∧ s.WarmedH t.vm ∧ s.sameButNew ({ t with vm := s.vm } : State) [] k n ∧ s.heap.size ≤ a ∧ t.heap[a]? = some cell ∧ s.vm.findClass C = some cell.cls ∧ cell.vm = .none
def te_Q (below : List Frame) (C : String) (s : State) (k n : Nat) : State → Prop := fun t => ∃ o, t.status = .running ∧ Ended t below o ∧ te_End C s o t k n
def te_Met (l : Launch) (y : MethodName) (ws : List Cond) (rm : Room) (Pc : Array Value → State → Prop) (C : String) (mc ms : Nat) : Prop :=
  MetFree l y (headSpec ws rm) Pc (fun _ _ _ _ _ => True) (fun _ st o t => te_End C st o t mc ms)
theorem te_keep {s t : State} {k n : Nat} (h : s.sameButNew t [] k n) {a : Addr} {x : Cell} (hx : s.heap[a]? = some x) : t.heap[a]? = some x := by
  obtain ⟨-, -, -, -, -, h6⟩ := h
  obtain ⟨x', h1, h2, h3, h4⟩ := h6 a x hx
  have hs : x'.slots = x.slots := by
    apply Array.ext_getElem?
    intro i
    exact h4 i (by simp)
  rw [h1, h2, hs]
theorem te_ofW {l : Launch} {y : MethodName} {ws ws' : List Cond} {rm : Room} {Pc : Array Value → State → Prop} {C : String} {mc ms : Nat} {cc : ByteArray} {maxL : Nat} {ret : Option FieldType}
    (hy : plainName y.cls = true) (hw : ws = Cond.code y cc maxL ret :: ws')
    (body : ∀ p e s m args below meth c s₁, BodyLoose p l y (headSpec ws rm) cc maxL ret e s m args below meth c s₁ → c.maxLocals = maxL → Pc args s →
      W p l e (headSpec ws rm).room s m args below meth c s.heap [] 0 0 (te_Q below C s mc ms) (entryFrame m args maxL)) : te_Met l y ws rm Pc C mc ms := by
  refine MetFree.of_bodyS (code := cc) (maxLocals := maxL) (ret := ret) hy ?_ ?_
  · intro args s m h hn
    obtain ⟨meth, c, h1, h2, h3, h4, h5, h6, -, -⟩ := Cond.code_spec hn (atoms_spec (ws := ws) h _ (by rw [hw]; exact List.mem_cons_self))
    exact ⟨meth, c, h1, h2, h3, h4, h5, h6⟩
  · intro p e s m args below meth c s₁ B hml hP _
    have hh0 : s₁.heap = s.heap := by rw [B.state]; rfl
    obtain ⟨t, a1, o, b1, b2, b3⟩ := body p e s m args below meth c s₁ B hml hP s₁ hh0 (Stand.of_body B)
    exact ⟨t, o, a1, b1, b2, b3⟩
section TE
variable {p : Program} {l : Launch} {e : Env} {R : Room} {s : State} {m : MethodId} {args : Array Value} {below : List Frame} {meth : Method} {c : Code} {H : Heap} {locs : List Loc} {cells slots : Nat} {Q : State → Prop}
set_option maxHeartbeats 1000000 in
theorem te_throw {cc : ByteArray} {ls : Array Slot} {rest : List Value} {pc : Nat} (hexec : p.tables.exec = Jvm.exec) (hb : c.code = cc) (hl : l.stackTraces = false) (hml : c.maxLocals = ls.size) {own X tx : String} {names : List String} {ic ix is : Nat}
    (hown : s.vm.findClass own = some m.cls) (hX : Bundle.fit X = true) (hN : ∀ n ∈ names, Bundle.fit n = true) (h : ∀ a ∈ Bundle.ownAtoms own ic X names, a.before args s = true)
    (hcl : (Cond.classLink own ix X).before args s = true) (hini : (Cond.initialized X).before args s = true) (hstr : (Cond.stringRef own is tx).before args s = true)
    (hout : c.exceptionTable.isEmpty = true) (hlocks : meth.locks = false) (hsz : s.heap.size ≤ H.size)
    (d0 : decode cc pc = .ok (.new ix, 3)) (d3 : decode cc (pc + 3) = .ok (.dup, 1)) (d4 : decode cc (pc + 4) = .ok (.ldc is, 2)) (d6 : decode cc (pc + 6) = .ok (.invokespecial ic, 3)) (d9 : decode cc (pc + 9) = .ok (.athrow, 1))
    (hfr : names.length + 3 < R.frames) (hlo : 1 + (rest.map fun v => v.category).sum + (13 * (names.length + 1) + 42) ≤ R.locals) (hc : cells + 1 ≤ R.cells) (hs : slots + 6 ≤ R.slots) :
    W p l e R s m args below meth c H [] cells slots (te_Q below X s (cells + 1) (slots + 6)) (F0 m pc ls rest) := by
  intro T hT X0
  subst hb
  have htr : e.platform.stackTraces = false := by rw [X0.admits.platform]; exact hl
  obtain ⟨vm1, cX, kX, hfX, hkX, -, -, X1, st1⟩ := X0.newCold hexec (own := own) (C := X) (index := ix) (n := 6) hown hcl (h (.instantiable X 6) (by simp [Bundle.ownAtoms])) hini (g := F0 m pc ls rest) rfl d0 hc hs
  generalize hT1 : (T.setVm vm1).pushCell { cls := cX, slots := kX.instanceTypes.map defaultValue, vm := .none } = T1 at X1 st1
  have hcellA : T1.heap[T.heap.size]? = some (freshCell cX kX) := by rw [← hT1]; exact State.heap_pushCell_size _ _
  obtain ⟨-, -, -, sa, -, -, -, -, -, hev⟩ := Cond.stringRef_spec hown hstr
  obtain ⟨U, hsteps, hrun, hend, hW, hsame, ce, hce, K⟩ := X1.ctorThrowS hexec htr (own := own) (cls := X) (names := names) (ic := ic) hown hX hN h (fun y hy => by cases hy) hfX hkX hcellA (by rw [hT]; exact hsz) (msg := .ref sa) rfl
    (g := F0 m (pc + 6) ls (.ref sa :: .ref T.heap.size :: .ref T.heap.size :: rest)) rfl hml.symm rfl rfl (rest := rest) rfl d6 d9 (covers_of_empty hout _) hfr (by show 2 * 0 + (1 + (rest.map fun v => v.category).sum) + (13 * (names.length + 1) + 42) ≤ R.locals; omega) hlocks
  refine ⟨U, ?_, .threw T.heap.size, hrun, hend, T.heap.size, ce, rfl, hW, hsame, by rw [hT]; exact hsz, hce, K.cls, K.vm⟩
  refine st1 _ ?_
  show Steps p.tables e below (T1.setTop (F0 m (pc + 3) ls (.ref T.heap.size :: rest))) _
  jvm_step X1.here [X1.here.top, hexec, d3, Value.category]
  exact X1.ldcString hexec (own := own) (text := tx) (index := is) (a := sa) hown hstr hev (g := F0 m (pc + 4) ls (.ref T.heap.size :: .ref T.heap.size :: rest)) rfl d4 _ hsteps
theorem te_run {y : MethodName} {ws : List Cond} {rm : Room} {Pc : Array Value → State → Prop} {C : String} {mc ms : Nat} {bytes : ByteArray} {maxL : Nat} {ret : Option FieldType}
    (hM : te_Met l y ws rm Pc C mc ms) (hblind : FrameBlind Pc) (hrc : rm.cells = mc) (hrs : rm.slots = ms) (hframes : rm.frames + 1 ≤ R.frames) (hlocals : 8 + (maxL + 11) + rm.locals ≤ R.locals)
    (hws : ∀ w ∈ ws, ∀ (a' : Array Value) (U : State), s.WarmedH U.vm → w.before a' U = true) (hcode : Cond.code y bytes maxL ret ∈ ws) (hinit : ∀ (a' : Array Value) (U : State), s.WarmedH U.vm → (Cond.initialized y.cls).before a' U = true)
    {U : State} (X : Stand p l e R s m args below meth c U locs cells slots) {g : JFrame} (hg : g.method = m) (hsize : g.locals.size = c.maxLocals) {ig : Instr} {len : Nat} (hdg : decode c.code g.pc = .ok (ig, len))
    (hW : 2 * g.monitorRoom + (g.stack.map fun v => v.category).sum ≤ 8) {mk : MethodId} (hn : U.methodNamed? y = some mk) {a : Array Value} (hP : Pc a U) (hcells : cells + mc ≤ R.cells) (hslots : slots + ms ≤ R.slots) :
    ∃ (x : Addr) (cell : Cell) (U' : State), Stand p l e R s m args below meth c U' locs (cells + mc) (slots + ms) ∧ U.heap.size ≤ x ∧ U'.heap[x]? = some cell ∧ U.vm.findClass C = some cell.cls ∧ cell.vm = .none ∧ U.heap.size ≤ U'.heap.size ∧ (∀ q : Nat, q < U.heap.size → U'.heap[q]? = U.heap[q]?) ∧
      Steps p.tables e below (doInvoke e (U.setTop g) [] mk a).1 ((U'.setTop g).pushFrame (.throwing x)) := by
  have h2 : (Cond.code y bytes maxL ret).before a U = true := hws _ hcode _ _ X.warmed
  obtain ⟨methY, cY, hmY, hcY, -, hlY, -⟩ := Cond.code_spec hn h2
  obtain ⟨kY, hkY, -⟩ := className_of_methodNamed hn
  have hinitY : kY.init = .initialized := Cond.initialized_spec (findClass_of_methodNamed hn) hkY (hinit a U X.warmed)
  have h : At U g.method c below := by rw [hg]; exact X.here
  have happ : (headSpec ws rm).appliesLoose y e.platform (U.calling g mk a) = true :=
    Spec.appliesLoose_calling (g := g) h hdg hn hkY hinitY
      (X.room_calling (g := g) (R' := rm) hsize hmY hcY hframes (by rw [hlY]; omega) (by rw [hrc]; exact hcells) (by rw [hrs]; exact hslots)) (atoms_intro fun w hw => hws w hw _ _ X.warmed)
  obtain ⟨mid, hmid⟩ := h.above
  have hfr : (U.setTop g).frames = (.java g :: mid) ++ below := by rw [State.frames_setTop' g h.top, hmid]; rfl
  obtain ⟨o, s₂, hsteps, -, hend, hq⟩ := Steps.callFree hM p X.admits X.cas X.clock (acts := []) hfr happ (hblind _ _ _ _ hP) trivial
  have hq' : te_End C (U.calling g mk a) o s₂ mc ms := hq
  rw [State.frames_setTop' g h.top] at hend
  obtain ⟨x, cell, rfl, hW₂, hsm, hx, hcell, hcls, hvm⟩ := hq'
  obtain ⟨e2, q2, q3, q4, q5, q6⟩ := id hsm
  have e3 : s₂ = ({ (U.calling g mk a).setFrames s₂.frames with heap := s₂.heap, slotsUsed := s₂.slotsUsed } : State).setVm s₂.vm := by
    have : s₂ = ({ s₂ with vm := (U.calling g mk a).vm } : State).setVm s₂.vm := rfl
    rw [e2] at this
    exact this
  have hf₂ : s₂.frames = .throwing x :: .java g :: U.frames.tail := hend
  have hW' : U.WarmedH s₂.vm := hW₂
  obtain ⟨g₀, hg0⟩ := Option.isSome_iff_exists.mp h.top
  obtain ⟨r, hr⟩ := State.topJava?_eq_some.mp hg0
  have hs₂ : s₂ = ((({ U with heap := s₂.heap, slotsUsed := s₂.slotsUsed } : State).setVm s₂.vm).setTop g).pushFrame (.throwing x) := by
    have hr' : (({ U with heap := s₂.heap, slotsUsed := s₂.slotsUsed } : State).setVm s₂.vm).frames = .java g₀ :: r := hr
    refine e3.trans ?_
    rw [hf₂, State.calling_eq h.top, State.setFrames_setFrames, State.pushFrame, State.frames_setTop _ hr', State.setTop_of_frames _ hr', State.setFrames_setFrames, hr]
    rfl
  have hsame : U.sameButNew ({ U with heap := s₂.heap, slotsUsed := s₂.slotsUsed } : State) [] mc ms := by
    refine ⟨?_, q2, q3, q4, q5, q6⟩
    obtain ⟨t, ht, -⟩ := State.frames_cons hr
    show ({ U with heap := s₂.heap, slotsUsed := s₂.slotsUsed } : State) = { U.setFrames U.frames with heap := s₂.heap, slotsUsed := s₂.slotsUsed }
    rw [State.setFrames_self ht]
  subst hg
  have hX' : Stand p l e R s g.method args below meth c (({ U with heap := s₂.heap, slotsUsed := s₂.slotsUsed } : State).setVm s₂.vm) (locs ++ []) (cells + mc) (slots + ms) :=
    ⟨X.admits, X.cas, X.clock, X.frames, X.room, X.hears, X.method, X.code, (X.here.setHeapUsed s₂.heap s₂.slotsUsed).setVm hW'.alike, X.tail, State.WarmedH.trans X.warmed hW', X.limits, X.bytes, X.same.trans (hsame.setVm s.vm)⟩
  rw [List.append_nil] at hX'
  refine ⟨x, cell, _, hX', hx, hcell, hcls, hvm, q2, fun q hq0 => ?_, ?_⟩
  · have hcq : U.heap[q]? = some U.heap[q] := Array.getElem?_eq_getElem hq0
    show s₂.heap[q]? = U.heap[q]?
    rw [hcq]
    exact te_keep hsame hcq
  · rw [← hs₂]
    exact hsteps
theorem te_callV {T : State} (X : Stand p l e R s m args below meth c T locs cells slots) (hexec : p.tables.exec = Jvm.exec) {own C E : String} {index n : Nat} {y : MethodName} {bytes : ByteArray} {maxL : Nat} {ret : Option FieldType} {ws : List Cond} {rm : Room} {Pc : Array Value → State → Prop} {mc ms : Nat}
    (hM : te_Met l y ws rm Pc E mc ms) (hbl : FrameBlind Pc) (cw : CallW R s args own C index y bytes maxL ret ws rm mc ms n) (hown : s.vm.findClass own = some m.cls)
    {b : Addr} {cellB : Cell} (hcell : T.heap[b]? = some cellB) (hobj : cellB.vm.isStatics = false) (hcls : s.vm.findClass C = some cellB.cls)
    {g : JFrame} (hg : g.method = m) (hsize : g.locals.size = c.maxLocals) {argsL rest : List Value} (hn : argsL.length = n)
    (hstack : g.stack = argsL.reverse ++ .ref b :: rest) (hW : 2 * g.monitorRoom + (rest.map fun v => v.category).sum ≤ 8) (hdg : decode c.code g.pc = .ok (.invokevirtual index, 3))
    (hPc : ∀ vm₁, s.WarmedH vm₁ → Pc (Value.ref b :: argsL).toArray (T.setVm vm₁)) (hf : cells + mc ≤ R.cells ∧ slots + ms ≤ R.slots) :
    ∃ (x : Addr) (cell : Cell) (U' : State), Stand p l e R s m args below meth c U' locs (cells + mc) (slots + ms) ∧ T.heap.size ≤ x ∧ U'.heap[x]? = some cell ∧ s.vm.findClass E = some cell.cls ∧ cell.vm = .none ∧ T.heap.size ≤ U'.heap.size ∧ (∀ q : Nat, q < T.heap.size → U'.heap[q]? = T.heap[q]?) ∧
      Steps p.tables e below (T.setTop g) ((U'.setTop { g with stack := rest }).pushFrame (.throwing x)) := by
  obtain ⟨⟨hrc, hrs, hfr, hlo, hws, hcw, hcode, hini, hy, hlen, hlink⟩, hinst, hsel⟩ := cw
  obtain ⟨mk, methM, hnamed, hmethM, hstM, habM⟩ := Cond.instanceMethod_spec hinst
  obtain ⟨methM', cM, hmethM', -, -, -, -, -, -, hsigM⟩ := Cond.code_spec hnamed hcode
  cases hmethM.symm.trans hmethM'
  obtain ⟨c2, r2, m2, q1, q2, q3, q4, kP, hkP, hkPi⟩ := Cond.selects_spec hsel
  cases hcls.symm.trans q1
  cases (State.methodFound?_of_named hnamed hy).symm.trans q2
  cases hnamed.symm.trans q3
  have hselP : selectMethod e.platform s.vm cellB.cls mk = .method mk := by rw [Launch.admits_selectMethod X.admits]; exact q4
  obtain ⟨vm₁, X₁, hstep₁⟩ := X.invokevirtual hexec hown hlink hnamed hmethM hstM hkP hkPi hy (a := b) (cell := cellB) hcell
    (fun z h => by rw [h] at hobj; cases hobj) hselP hmethM habM hkP hkPi (g := g) hg (argsL := argsL) (rest := rest) (hn.trans (hlen _ hsigM)) hstack hdg
  obtain ⟨x, cell, U', X', h1, h2, h3, h4, h5, h6, hst⟩ := te_run hM hbl hrc hrs hfr hlo hws hcw (fun a' U hW => word_at hW (Or.inl (by first | rfl | simp [Cond.onTables, Cond.keeps, Cond.steady])) hini) X₁ (g := { g with stack := rest }) hg hsize hdg hW (X₁.named hnamed) (hPc vm₁ X₁.warmed) hf.1 hf.2
  refine ⟨x, cell, U', X', h1, h2, ?_, h4, h5, h6, ?_⟩
  · have h3' : (T.setVm vm₁).vm.findClass E = some cell.cls := h3
    rw [X₁.warmed.alike.findClass] at h3'
    exact h3'
  · exact hstep₁ _ fun acts => by rw [doInvoke_state]; exact hst
theorem te_passV {Ts ws : List Cond} {cc bytes : ByteArray} {nL maxL index n mc ms : Nat} {own C E : String} {y : MethodName} {ret : Option FieldType} {rm : Room} {Pc : Array Value → State → Prop} {b : Addr} {As rest st0 : List Value} {pc : Nat} {ls : Array Slot}
    (S : CallFix p m c cc nL s args Ts own) (hM : te_Met l y ws rm Pc E mc ms) (cw : CallW R s args own C index y bytes maxL ret ws rm mc ms n) (hp : PreV s H C b Pc As)
    (hout : c.exceptionTable.isEmpty = true) (hlocks : meth.locks = false) (hsz : s.heap.size ≤ H.size)
    (hn : As.length = n) (hsize : ls.size = nL) (hstack : st0 = As.reverse ++ .ref b :: rest) (hW : (rest.map fun v => v.category).sum ≤ 8) (hdg : decode cc pc = .ok (.invokevirtual index, 3)) (hf : cells + mc ≤ R.cells ∧ slots + ms ≤ R.slots) :
    W p l e R s m args below meth c H [] cells slots (te_Q below E s (cells + mc) (slots + ms)) (F0 m pc ls st0) := by
  obtain ⟨hx, hb, hml, ho, -⟩ := S
  obtain ⟨hbl, ⟨cellB, hcB, hoB, hclB⟩, hPc⟩ := hp
  intro T hT X
  obtain ⟨x, cell, U', X', h1, h2, h3, h4, h5, h6, hst⟩ := te_callV X hx hM hbl cw ho (by rw [hT]; exact hcB) hoB hclB (g := F0 m pc ls st0) rfl (hsize.trans hml.symm) (argsL := As) (rest := rest) hn hstack (lv_room (m := m) (pc := pc) (ls := ls) (rest := st0) hW) (by rw [hb]; exact hdg)
    (fun vm₁ hW₁ => hPc (T.setVm vm₁) hT hW₁) hf
  obtain ⟨hw, hrun, hend, hWm, hsame⟩ := X'.leaveThrown x (g := F0 m pc ls rest) rfl rfl rfl (covers_of_empty hout _) hlocks
  exact ⟨_, hst.trans hw, .threw x, hrun, hend, x, cell, rfl, hWm, hsame, Nat.le_trans hsz (by rw [← hT]; exact h1), h2, h3, h4⟩
/-- the search through a table of handlers, in words of the start state: an entry that covers pc names a kind by its pool entry; the object's kind E can be cast to it (found), or not (it goes on) -/
def te_Srch (s : State) (args : Array Value) (own E : String) (pc hpc : Nat) : List (Nat × Nat × Nat × Nat) → Prop
  | [] => False
  | (a, b, h, t) :: r => (¬ (a ≤ pc ∧ pc < b) ∧ te_Srch s args own E pc hpc r) ∨ ((a ≤ pc ∧ pc < b) ∧ t ≠ 0 ∧ ∃ nm : String, (Cond.classLink own t nm).before args s = true ∧
      (((Cond.castable E nm).before args s = true ∧ h = hpc) ∨ (va_Nc E nm s ∧ te_Srch s args own E pc hpc r)))
theorem te_find {own E : String} {pc hpc : Nat} {f : JFrame} {x : Addr} {cell : Cell} (hpl : e.platform.magicAccessors = ({} : Platform).magicAccessors) (hown : s.vm.findClass own = some f.method.cls) (hpc0 : f.pc = pc) (hE : s.vm.findClass E = some cell.cls) (hvm : cell.vm = .none) :
    ∀ (tb : List ExceptionTableEntry) (S : State), s.WarmedH S.vm → S.heap[x]? = some cell → te_Srch s args own E pc hpc (tb.map (fun h => (h.startPc, h.endPc, h.handlerPc, h.catchType))) →
      ∃ vm', s.WarmedH vm' ∧ ∀ (Q : Handler → Pre) (X : CtlPost) (d : Bool) (acts : List Action), wp (findHandler.go f x tb) Q X e d acts S ↔ Q (.found hpc) d acts (S.setVm vm') := by
  intro tb
  induction tb with
  | nil => intro S _ _ h; exact h.elim
  | cons y r ih =>
    intro S hW hc h
    rcases h with ⟨h1, h2⟩ | ⟨h1, h0, nm, hlink, h2⟩
    · obtain ⟨vm', hW', hf⟩ := ih S hW hc h2
      refine ⟨vm', hW', fun Q X d acts => ?_⟩
      rw [W.findHandler_go_skip (by rw [hpc0]; simp only [covers, Bool.and_eq_false_iff, decide_eq_false_iff_not]; omega)]
      exact hf Q X d acts
    · have hx : covers y f.pc = true := by rw [hpc0]; simp only [covers, Bool.and_eq_true, decide_eq_true_eq]; exact h1
      obtain ⟨cT, hcT, hcl⟩ := Cond.classLink_spec hown hlink e.platform hpl
      obtain ⟨dk, _, _, kt, hd, _, _, _, _, hkt, _, hopen⟩ := hcl.here
      have hcl₀ := hW.classLinks hcl
      have hW' : s.WarmedH (S.vm.noted f.method.cls y.catchType (.cls cT)) := hW.noted hd hopen (State.rightAt_cls hcl)
      obtain ⟨ha, ht⟩ := (resolveClass_links e.toSetting hcl₀).op (op := VmOp.resolveClass f.method.cls y.catchType) rfl
      have hal := hW'.alike
      obtain ⟨ks, hks⟩ := Vm.classAt_of_findClass hE
      obtain ⟨ks', hks', -⟩ := hal.2.2 _ _ hks
      obtain ⟨kt', hkt', -⟩ := hal.2.2 _ _ hkt
      have hobj : ∀ k, cell.vm ≠ .statics k := fun k h => by rw [hvm] at h; cases h
      simp only [covers] at hx
      have h0' : y.catchType ≠ 0 := h0
      rcases h2 with ⟨hcast, rfl⟩ | ⟨⟨c1, c2, k1, k2, hno⟩, h2⟩
      · obtain ⟨c3, c4, w1, w2, w3⟩ := Cond.castable_spec hcast
        cases hE.symm.trans w1
        cases hcT.symm.trans w2
        have hfit : (S.vm.noted f.method.cls y.catchType (.cls cT)).assignable cell.cls cT = true := by rw [hal.assignable]; exact w3
        refine ⟨_, hW', fun Q X d acts => ?_⟩
        simp [findHandler.go, hx, h0', ha, ht, hc, hobj, hks', hkt', hfit, VmOp.dirties, VmOp.acts]
      · cases hE.symm.trans k1
        cases hcT.symm.trans k2
        have hfit : (S.vm.noted f.method.cls y.catchType (.cls cT)).assignable cell.cls cT = false := by rw [hal.assignable]; exact hno
        obtain ⟨vm', hW2, hf⟩ := ih (S.setVm (S.vm.noted f.method.cls y.catchType (.cls cT))) hW' hc h2
        refine ⟨vm', hW2, fun Q X d acts => ?_⟩
        have hf' := hf Q X d acts
        simp [findHandler.go, hx, h0', ha, ht, hc, hobj, hks', hkt', hfit, VmOp.dirties, VmOp.acts]
        exact hf'
theorem te_catch {T : State} (X : Stand p l e R s m args below meth c T locs cells slots) {own E : String} {hh : List (Nat × Nat × Nat × Nat)} (hown : s.vm.findClass own = some m.cls) (htab : c.exceptionTable.toList.map (fun h => (h.startPc, h.endPc, h.handlerPc, h.catchType)) = hh)
    {g : JFrame} (hg : g.method = m) {hpc : Nat} (hsr : te_Srch s args own E g.pc hpc hh) {x : Addr} {cell : Cell} (hc : T.heap[x]? = some cell) (hE : s.vm.findClass E = some cell.cls) (hvm : cell.vm = .none) :
    ∃ vm', Stand p l e R s m args below meth c (T.setVm vm') locs cells slots ∧ ∀ target, Steps p.tables e below ((T.setVm vm').setTop { g with pc := hpc, stack := [.ref x] }) target → Steps p.tables e below ((T.setTop g).pushFrame (.throwing x)) target := by
  have hpl : e.platform.magicAccessors = ({} : Platform).magicAccessors := by rw [X.admits.platform]
  subst hg
  have hvmS : ((T.setTop g).pushFrame (.throwing x)).vm = T.vm := Stand.throwing_vm T g x
  have hheapS : ((T.setTop g).pushFrame (.throwing x)).heap = T.heap := Stand.throwing_heap T g x
  obtain ⟨vm', hW', hf⟩ := te_find (e := e) (f := g) (x := x) (cell := cell) hpl hown rfl hE hvm c.exceptionTable.toList ((T.setTop g).pushFrame (.throwing x)) (by rw [hvmS]; exact X.warmed) (by rw [hheapS]; exact hc) (by rw [htab]; exact hsr)
  refine ⟨vm', X.noted hW', fun target hrest => ?_⟩
  have h := X.here
  obtain ⟨hgo, hw⟩ := h.throwing x
  refine Steps.head hgo hw ?_
  have hfind : ∀ (Q : Handler → Pre) (E : CtlPost) (d : Bool) (acts : List Action), wp (findHandler g x) Q E e d acts ((T.setTop g).pushFrame (.throwing x)) ↔ Q (.found hpc) d acts (((T.setTop g).pushFrame (.throwing x)).setVm vm') := by
    intro Q E d acts
    rw [W.findHandler_eq (meth := meth) (code := c) (by rw [hvmS]; exact X.method') X.code]
    exact hf Q E d acts
  have hstep : (stepThrowing e ((T.setTop g).pushFrame (.throwing x)) x (.java g :: T.frames.tail)).Is ((((T.setTop g).pushFrame (.throwing x)).setVm vm').setFrames (.java { g with pc := hpc, stack := [.ref x] } :: T.frames.tail)) [] := by
    simp only [stepThrowing, searchFrame, vmDo]
    generalize hr : Sem.go _ e false [] ((T.setTop g).pushFrame (.throwing x)) = res
    obtain ⟨as, rfl, ha⟩ := Sem.eq_ok_of hr (a := Handler.found hpc) (s' := ((T.setTop g).pushFrame (.throwing x)).setVm vm') (acts' := []) (by simp [hfind _ _ _ _])
    exact ⟨rfl, ha⟩
  rw [stepThread_throwing (frames_entered h.top _), hstep.1]
  obtain ⟨g₀, hg⟩ := Option.isSome_iff_exists.mp h.top
  obtain ⟨r, hr⟩ := State.topJava?_eq_some.mp hg
  have hr' : (T.setVm vm').frames = .java g₀ :: r := hr
  rw [State.setTop_of_frames _ hr'] at hrest
  have e1 : (((T.setTop g).pushFrame (.throwing x)).setVm vm').setFrames (.java { g with pc := hpc, stack := [.ref x] } :: T.frames.tail) = (T.setVm vm').setFrames (.java { g with pc := hpc, stack := [.ref x] } :: r) := by
    rw [hr, List.tail_cons, State.pushFrame, State.setTop_of_frames _ hr]
    have e2 : ∀ (u : State) (F : List Frame), (u.setFrames F).setVm vm' = (u.setVm vm').setFrames F := fun _ _ => rfl
    rw [State.setFrames_setFrames, e2, State.setFrames_setFrames]
  rw [e1]
  exact hrest
theorem te_catchV {Ts ws : List Cond} {cc bytes : ByteArray} {nL maxL index n mc ms : Nat} {own C E : String} {y : MethodName} {ret : Option FieldType} {rm : Room} {Pc : Array Value → State → Prop} {b : Addr} {As rest st0 : List Value} {pc hpc : Nat} {ls : Array Slot} {hh : List (Nat × Nat × Nat × Nat)}
    (S : CallFix p m c cc nL s args Ts own) (hM : te_Met l y ws rm Pc E mc ms) (cw : CallW R s args own C index y bytes maxL ret ws rm mc ms n) (hp : PreV s H C b Pc As)
    (htab : c.exceptionTable.toList.map (fun h => (h.startPc, h.endPc, h.handlerPc, h.catchType)) = hh) (hsr : te_Srch s args own E pc hpc hh)
    (hn : As.length = n) (hsize : ls.size = nL) (hstack : st0 = As.reverse ++ .ref b :: rest) (hW : (rest.map fun v => v.category).sum ≤ 8) (hdg : decode cc pc = .ok (.invokevirtual index, 3)) (hf : cells + mc ≤ R.cells ∧ slots + ms ≤ R.slots)
    (kk : ∀ (x : Nat) (H1 : Heap), H.size ≤ H1.size → (∀ q : Nat, q < H.size → H1[q]? = H[q]?) → W p l e R s m args below meth c H1 locs (cells + mc) (slots + ms) Q (F0 m hpc ls [.ref x])) :
    W p l e R s m args below meth c H locs cells slots Q (F0 m pc ls st0) := by
  obtain ⟨hx, hb, hml, ho, -⟩ := S
  obtain ⟨hbl, ⟨cellB, hcB, hoB, hclB⟩, hPc⟩ := hp
  intro T hT X
  obtain ⟨x, cell, U', X', h1, h2, h3, h4, h5, h6, hst⟩ := te_callV X hx hM hbl cw ho (by rw [hT]; exact hcB) hoB hclB (g := F0 m pc ls st0) rfl (hsize.trans hml.symm) (argsL := As) (rest := rest) hn hstack (lv_room (m := m) (pc := pc) (ls := ls) (rest := st0) hW) (by rw [hb]; exact hdg)
    (fun vm₁ hW₁ => hPc (T.setVm vm₁) hT hW₁) hf
  obtain ⟨vm', X2, hst2⟩ := te_catch X' ho htab (g := F0 m pc ls rest) rfl hsr h2 h3 h4
  obtain ⟨t, a1, b1⟩ := kk x U'.heap (by rw [← hT]; exact h5) (by rw [← hT]; exact h6) (U'.setVm vm') rfl X2
  exact ⟨t, hst.trans (hst2 t a1), b1⟩
end TE
