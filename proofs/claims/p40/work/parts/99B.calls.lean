/-! calls that don't come back: from the caller's instruction to the callee's frame, or to the overflow -/
section NXC
variable {p : Program} {l : Launch} {e : Env} {R : Room} {s : State} {m : MethodId} {args : Array Value} {below : List Frame} {meth : Method} {c : Code} {T : State} {locs : List Loc} {cells slots : Nat}
theorem nx_enter {S : Spec} {x : MethodName} {s : State} {m : MethodId} {args : Array Value} {mid below : List Frame} (hfr : s.frames = mid ++ below) (happ : S.appliesLoose x e.platform (s.pushFrame (.invoking m args)) = true)
    (hin : ∃ t, Steps p.tables e s.frames (s.pushFrame (.invoking m args)) t ∧ Dead p.tables e s.frames t) : ∃ t, Steps p.tables e below (doInvoke e s [] m args).1 t ∧ Dead p.tables e below t := by
  obtain ⟨t, ht⟩ : ∃ t, s.threads[s.cur]? = some t := by
    cases h : s.threads[s.cur]? with
    | some t => exact ⟨t, rfl⟩
    | none =>
      have : (s.pushFrame (.invoking m args)).frames = [] := by
        simp [State.frames, State.pushFrame, State.setFrames, Array.getElem?_modify, h]
      simp [Spec.appliesLoose, this] at happ
  have hlt : s.cur < s.threads.size := (Array.getElem?_eq_some_iff.mp ht).1
  have hf' : (s.pushFrame (.invoking m args)).frames = .invoking m args :: s.frames := State.frames_setFrames _ hlt
  obtain ⟨hrun, hable, halone, -⟩ := (Spec.appliesLoose_iff hf').mp happ
  have hgo : (s.pushFrame (.invoking m args)).goesOn := ⟨hrun, hable, halone⟩
  obtain ⟨u, ⟨n, hn, hw⟩, hd⟩ := hin
  have hstep : (stepThread p.tables e (s.pushFrame (.invoking m args))).1 = (doInvoke e s [] m args).1 := by
    rw [stepThread_invoking hf', doInvoke_state e s [], State.pushFrame, State.setFrames_setFrames, State.setFrames_self ht]
  cases n with
  | zero =>
    have hn : s.pushFrame (.invoking m args) = u := hn
    subst hn
    rcases hd with ⟨why, hd⟩ | hd
    · rw [hrun] at hd
      cases hd
    · obtain ⟨cls, msg, cause, mid', h0⟩ := hd.2 0
      have h0 : (s.pushFrame (.invoking m args)).frames = .throwNew cls msg cause :: _ := h0
      rw [hf'] at h0
      cases h0
  | succ k =>
    rw [stepsAlone_succ _ hgo, hstep] at hn
    rw [hfr] at hd
    refine ⟨u, ⟨k, hn, fun j hj => ?_⟩, hd.weaken⟩
    have := hw (j + 1) (by omega)
    rw [stepsAlone_succ _ hgo, hstep, hfr] at this
    exact this.weaken
theorem nx_body {x : MethodName} {S : Spec} {code : ByteArray} {maxLocals : Nat} {ret : Option FieldType} (hx : plainName x.cls = true)
    (his : ∀ args (s : State) m, S.pre.before args s = true → s.methodNamed? x = some m → ∃ meth c, s.vm.method? m = some meth ∧ meth.code = some c ∧ c.code = code ∧ c.maxLocals = maxLocals ∧ meth.sig.returnType = ret ∧ meth.locks = false)
    (p : Program) {e : Env} (ha : l.admits e) (hc : FairCas e.choices) (hk : FairClock e.choices) {s : State} {m : MethodId} {args : Array Value} {below : List Frame} (hf : s.frames = .invoking m args :: below) (happ : S.appliesLoose x e.platform s = true) :
    ∃ meth c, BodyLoose p l x S code maxLocals ret e s m args below meth c (s.setFrames (.java (entryFrame m args maxLocals) :: below)) ∧ c.maxLocals = maxLocals ∧
      ∀ t, Steps p.tables e below ((s.setFrames (.java (entryFrame m args maxLocals) :: below)).setTop (entryFrame m args maxLocals)) t → Steps p.tables e below s t := by
  obtain ⟨hrun, hable, halone, hname, hhears, hinit, hroom, hpre⟩ := (Spec.appliesLoose_iff hf).mp happ
  obtain ⟨meth, c, hmeth, hcode, hbytes, hlocals, hret, hlocks⟩ := his args s m hpre hname
  have hcur := State.cur_lt_of_frames hf
  have hf1 : (s.setFrames (.java (entryFrame m args maxLocals) :: below)).frames = .java (entryFrame m args maxLocals) :: below :=
    State.frames_setFrames _ hcur
  have ht1 := State.topJava?_of_frames hf1
  have hplain : (s.setFrames (.java (entryFrame m args maxLocals) :: below)).plainMethod m := State.plainMethod.of_named (s := s) (plainFor_of_name hx) hname hmeth
  have hAt : At (s.setFrames (.java (entryFrame m args maxLocals) :: below)) m c below :=
    ⟨by rw [ht1]; rfl, ⟨[], by rw [hf1]; rfl⟩, hrun, by simpa using hable, by simpa using halone,
      by rw [State.code?_eq]; simp [State.setFrames, hmeth, hcode], hplain⟩
  have hstep : (stepThread p.tables e s).1 = (s.setFrames (.java (entryFrame m args maxLocals) :: below)).setTop (entryFrame m args maxLocals) := by
    have hfull : e.platform.stackFull (s.setFrames below).me (s.setFrames below).frames c.maxLocals = false := by
      obtain ⟨-, h1, -, h2⟩ := State.hasRoom_stack hroom
      rw [hf, List.length_cons] at h1
      rw [State.localsInUse_invoking hf hmeth hcode] at h2
      have hw := stackUse_le_stackWeight below
      rw [State.frames_setFrames _ hcur]
      exact Platform.stackFull_eq_false (by rw [State.stackLimits_setFrames]; omega) (by rw [State.stackLimits_setFrames]; omega)
    rw [stepThread_invoking hf, (doInvoke_java (s := s.setFrames below) (e := e) (meth := meth) (code := c) hmeth hcode hlocks hfull).1, State.setTop_self ht1]
    simp only [State.pushFrame, State.frames_setFrames _ hcur, State.setFrames_setFrames, hlocals, entryFrame]
  exact ⟨meth, c, ⟨ha, hc, hk, by cases p <;> rfl, hf, hname, hhears, hinit, hroom, hpre, hmeth, hret, hlocks, hbytes, rfl, hAt⟩, hlocals,
    fun t ht => Steps.head ⟨hrun, hable, halone⟩ ⟨[.invoking m args], hf, by simp, by simp⟩ (hstep ▸ ht)⟩
theorem nx_sig {md : MD} {args : Array Value} {s : State} {mk : MethodId} {methM : Method} (h : (cwd md).before args s = true) (hn : s.methodNamed? (mY md) = some mk) (hm : s.vm.method? mk = some methM) : parseMethodDescriptor (mY md).desc = some methM.sig := by
  by_cases hh : mH md = []
  · rw [cwd_nil hh] at h
    obtain ⟨methM', cM, hm', -, -, -, -, -, -, hsig⟩ := Cond.code_spec hn h
    cases hm.symm.trans hm'
    exact hsig
  · rw [cwd_cons hh] at h
    obtain ⟨m8, methM', cM, hn8, hm', -, -, -, -, -, -, hsig⟩ := Cond.codeWith_spec h
    cases Option.some.inj (hn8.symm.trans hn)
    cases hm.symm.trans hm'
    exact hsig
/-- a virtual call: the callee's frame stands, or the stack is full -/
theorem nx_virt (X : Stand p l e R s m args below meth c T locs cells slots) (hexec : p.tables.exec = Jvm.exec) {own C : String} {index : Nat} {mu : MD}
    (hown : s.vm.findClass own = some m.cls) (hlink : (Cond.methodLink own index (mY mu)).before args s = true) (hinst : (Cond.instanceMethod (mY mu)).before args s = true) (hsel : (Cond.selects C (mY mu) (mY mu)).before args s = true)
    (hcode : (cwd mu).before args s = true) (hinit : (Cond.initialized (mY mu).cls).before args s = true) (hy : (mY mu).cls ≠ "java/lang/invoke/MethodHandle" ∧ (mY mu).cls ≠ "java/lang/invoke/VarHandle")
    {b : Addr} {cellB : Cell} (hcell : T.heap[b]? = some cellB) (hobj : cellB.vm.isStatics = false) (hcls : s.vm.findClass C = some cellB.cls)
    {g : JFrame} (hg : g.method = m) {argsL rest : List Value} (hlen : ∀ sig, parseMethodDescriptor (mY mu).desc = some sig → argsL.length = sig.parameters.length)
    (hstack : g.stack = argsL.reverse ++ .ref b :: rest) (hdg : decode c.code g.pc = .ok (.invokevirtual index, 3))
    (k : ∀ (vm₁ : Vm) (mk : MethodId) (kY : Class) (methM : Method) (cM : Code), s.WarmedH vm₁ → Stand p l e R s m args below meth c (T.setVm vm₁) locs cells slots → (T.setVm vm₁).methodNamed? (mY mu) = some mk → vm₁.method? mk = some methM → methM.code = some cM → cM.maxLocals = mL mu → methM.locks = false → vm₁.classes[mk.cls]? = some kY → kY.init = .initialized →
      ∃ t, Steps p.tables e below (doInvoke e ((T.setVm vm₁).setTop { g with stack := rest }) [] mk (Value.ref b :: argsL).toArray).1 t ∧ Dead p.tables e below t) :
    ∃ t, Steps p.tables e below (T.setTop g) t ∧ Dead p.tables e below t := by
  obtain ⟨mk, methM, hnamed, hmethM, hstM, habM⟩ := Cond.instanceMethod_spec hinst
  obtain ⟨methM', cM, hmethM', hcM, -, hlM, -, hlkM, -⟩ := cwd_spec hcode hnamed
  cases hmethM.symm.trans hmethM'
  have hsigM := nx_sig hcode hnamed hmethM
  obtain ⟨c2, r2, m2, q1, q2, q3, q4, kP, hkP, hkPi⟩ := Cond.selects_spec hsel
  cases hcls.symm.trans q1
  cases (State.methodFound?_of_named hnamed hy).symm.trans q2
  cases hnamed.symm.trans q3
  have hselP : selectMethod e.platform s.vm cellB.cls mk = .method mk := by rw [Launch.admits_selectMethod X.admits]; exact q4
  obtain ⟨vm₁, X₁, hstep₁⟩ := X.invokevirtual hexec hown hlink hnamed hmethM hstM hkP hkPi hy (a := b) (cell := cellB) hcell
    (fun z h => by rw [h] at hobj; cases hobj) hselP hmethM habM hkP hkPi (g := g) hg (argsL := argsL) (rest := rest) (hlen _ hsigM) hstack hdg
  have hal := X₁.warmed.alike
  have hn1 := X₁.named hnamed
  have hm1 : vm₁.method? mk = some methM := by
    have := hal.method? (m := mk)
    first
      | exact this.trans hmethM
      | exact (this.symm.trans hmethM)
      | (rw [this]; exact hmethM)
      | (rw [← this]; exact hmethM)
  obtain ⟨kY, hkY, -⟩ := className_of_methodNamed hn1
  have hini : kY.init = .initialized := Cond.initialized_spec (findClass_of_methodNamed hn1) hkY (word_at (a' := args) (U := T.setVm vm₁) X₁.warmed (Or.inl (by first | rfl | simp [Cond.onTables, Cond.keeps, Cond.steady])) hinit)
  obtain ⟨t, a1, b1⟩ := k vm₁ mk kY methM cM X₁.warmed X₁ hn1 hm1 hcM hlM hlkM hkY hini
  exact ⟨t, hstep₁ _ fun acts => by rw [doInvoke_state]; exact a1, b1⟩
/-- the callee's frame stands -/
theorem nx_callee (X : Stand p l e R s m args below meth c T locs cells slots) (hexec : p.tables.exec = Jvm.exec) {own C : String} {index : Nat} {mu : MD} {ws : List Cond} {rm : Room}
    (hown : s.vm.findClass own = some m.cls) (hlink : (Cond.methodLink own index (mY mu)).before args s = true) (hinst : (Cond.instanceMethod (mY mu)).before args s = true) (hsel : (Cond.selects C (mY mu) (mY mu)).before args s = true)
    (hcode : (cwd mu).before args s = true) (hinit : (Cond.initialized (mY mu).cls).before args s = true) (hy : (mY mu).cls ≠ "java/lang/invoke/MethodHandle" ∧ (mY mu).cls ≠ "java/lang/invoke/VarHandle")
    (hws : ∀ w ∈ ws, ∀ (a' : Array Value) (U : State), s.WarmedH U.vm → w.before a' U = true) (hframes : rm.frames + 1 ≤ R.frames) (hlocals : 8 + (mL mu + 11) + rm.locals ≤ R.locals) (hcells : cells + rm.cells ≤ R.cells) (hslots : slots + rm.slots ≤ R.slots)
    {b : Addr} {cellB : Cell} (hcell : T.heap[b]? = some cellB) (hobj : cellB.vm.isStatics = false) (hcls : s.vm.findClass C = some cellB.cls)
    {g : JFrame} (hg : g.method = m) (hsize : g.locals.size = c.maxLocals) {argsL rest : List Value} (hlen : ∀ sig, parseMethodDescriptor (mY mu).desc = some sig → argsL.length = sig.parameters.length)
    (hstack : g.stack = argsL.reverse ++ .ref b :: rest) (hW : 2 * g.monitorRoom + (rest.map fun v => v.category).sum ≤ 8) (hdg : decode c.code g.pc = .ok (.invokevirtual index, 3))
    (k : ∀ (U : State) (mk : MethodId), U.frames = .invoking mk (Value.ref b :: argsL).toArray :: .java { g with stack := rest } :: below → (headSpec ws rm).appliesLoose (mY mu) e.platform U = true → U.heap = T.heap → s.WarmedH U.vm →
      ∃ t, Steps p.tables e (.java { g with stack := rest } :: below) U t ∧ Dead p.tables e (.java { g with stack := rest } :: below) t) :
    ∃ t, Steps p.tables e below (T.setTop g) t ∧ Dead p.tables e below t := by
  refine nx_virt X hexec hown hlink hinst hsel hcode hinit hy hcell hobj hcls hg hlen hstack hdg ?_
  intro vm₁ mk kY methM cM hW1 X₁ hn1 hm1 hcM hlM hlk hkY hini
  have h1 : (headSpec ws rm).pre.before (Value.ref b :: argsL).toArray (T.setVm vm₁) = true := atoms_intro fun w hw => hws w hw _ _ X₁.warmed
  have h : At (T.setVm vm₁) ({ g with stack := rest } : JFrame).method c below := by rw [show ({ g with stack := rest } : JFrame).method = m from hg]; exact X₁.here
  have happ : (headSpec ws rm).appliesLoose (mY mu) e.platform ((T.setVm vm₁).calling { g with stack := rest } mk (Value.ref b :: argsL).toArray) = true :=
    Spec.appliesLoose_calling (g := { g with stack := rest }) h hdg hn1 hkY hini
      (X₁.room_calling (g := { g with stack := rest }) (R' := (headSpec ws rm).room) hsize hm1 hcM hframes (by rw [hlM]; show _ ≤ R.locals; have : (headSpec ws rm).room.locals = rm.locals := rfl; show 2 * g.monitorRoom + (rest.map fun v => v.category).sum + (mL mu + 11) + rm.locals ≤ R.locals; omega) hcells hslots) h1
  have hfr : ((T.setVm vm₁).setTop { g with stack := rest }).frames = [.java { g with stack := rest }] ++ below := by rw [State.frames_setTop' _ X₁.here.top, X₁.tail]; rfl
  have hcur : ((T.setVm vm₁).setTop { g with stack := rest }).cur < ((T.setVm vm₁).setTop { g with stack := rest }).threads.size := State.cur_lt_of_frames hfr
  have hf' : ((T.setVm vm₁).calling { g with stack := rest } mk (Value.ref b :: argsL).toArray).frames = .invoking mk (Value.ref b :: argsL).toArray :: .java { g with stack := rest } :: below := by
    rw [State.calling_eq X₁.here.top, State.frames_setFrames _ (State.cur_lt_of_top X₁.here.top), X₁.tail]
  have hceq := State.calling_eq (s := T.setVm vm₁) X₁.here.top { g with stack := rest } mk (Value.ref b :: argsL).toArray
  unfold State.calling at hceq
  refine nx_enter (mid := [.java { g with stack := rest }]) hfr happ ?_
  rw [hfr]
  refine k _ mk hf' happ ?_ ?_
  · rw [hceq]; rfl
  · rw [hceq]; exact hW1
/-- the stack is full -/
theorem nx_over (X : Stand p l e R s m args below meth c T locs cells slots) (hexec : p.tables.exec = Jvm.exec) {own C : String} {index : Nat} {mu : MD}
    (hown : s.vm.findClass own = some m.cls) (hlink : (Cond.methodLink own index (mY mu)).before args s = true) (hinst : (Cond.instanceMethod (mY mu)).before args s = true) (hsel : (Cond.selects C (mY mu) (mY mu)).before args s = true)
    (hcode : (cwd mu).before args s = true) (hinit : (Cond.initialized (mY mu).cls).before args s = true) (hy : (mY mu).cls ≠ "java/lang/invoke/MethodHandle" ∧ (mY mu).cls ≠ "java/lang/invoke/VarHandle")
    {b : Addr} {cellB : Cell} (hcell : T.heap[b]? = some cellB) (hobj : cellB.vm.isStatics = false) (hcls : s.vm.findClass C = some cellB.cls)
    {g : JFrame} (hg : g.method = m) {argsL rest : List Value} (hlen : ∀ sig, parseMethodDescriptor (mY mu).desc = some sig → argsL.length = sig.parameters.length)
    (hstack : g.stack = argsL.reverse ++ .ref b :: rest) (hdg : decode c.code g.pc = .ok (.invokevirtual index, 3))
    (hV : NXV s) (hc1 : e.classPath SOEn = none) (hc2 : e.classPath NDFn = none) (hlim : (e.platform.limitsFor 0).1 ≤ below.length + 1)
    (hnn : (below.any fun | .thenThrow _ | .throwNew .. => true | _ => false) = false) :
    ∃ t, Steps p.tables e below (T.setTop g) t ∧ Dead p.tables e below t := by
  refine nx_virt X hexec hown hlink hinst hsel hcode hinit hy hcell hobj hcls hg hlen hstack hdg ?_
  intro vm₁ mk kY methM cM hW1 X₁ hn1 hm1 hcM hlM hlk hkY hini
  have hfr : ((T.setVm vm₁).setTop { g with stack := rest }).frames = .java { g with stack := rest } :: below := by rw [State.frames_setTop' _ X₁.here.top, X₁.tail]
  have hcur : ((T.setVm vm₁).setTop { g with stack := rest }).cur < ((T.setVm vm₁).setTop { g with stack := rest }).threads.size := State.cur_lt_of_frames hfr
  have hroom := X.room
  simp only [State.hasRoom, Bool.and_eq_true, decide_eq_true_eq] at hroom
  obtain ⟨⟨⟨⟨-, -, -, -, -, hsb⟩, hmc⟩, -⟩, -⟩ := hroom
  have hlimT : (e.platform.stackLimits ((T.setVm vm₁).setTop { g with stack := rest }).me).1 = (e.platform.limitsFor 0).1 := by
    rw [State.stackLimits_setTop _ X₁.here.top, X₁.limits]
    unfold Platform.stackLimits
    rw [hsb]
  have hfull : e.platform.stackFull ((((T.setVm vm₁).setTop { g with stack := rest }).threads[((T.setVm vm₁).setTop { g with stack := rest }).cur]?).getD { frames := [] }) ((T.setVm vm₁).setTop { g with stack := rest }).frames cM.maxLocals = true := by
    unfold Platform.stackFull
    rw [hfr]
    have h1 : (stackUse (.java { g with stack := rest } :: below)).1 = below.length + 1 := by
      unfold stackUse
      rw [use_len, List.length_cons, Nat.zero_add]
    have h2 : (stackUse (.java { g with stack := rest } :: below)).1 ≥ (e.platform.stackLimits ((T.setVm vm₁).setTop { g with stack := rest }).me).1 := by
      rw [h1, hlimT]; exact hlim
    rw [Bool.or_eq_true]
    exact Or.inl (decide_eq_true h2)
  rcases nx_full (args := (Value.ref b :: argsL).toArray) (s := (T.setVm vm₁).setTop { g with stack := rest }) (m := mk) (meth := methM) (c := cM) (by
      rw [State.setTop_of_frames _ (show (T.setVm vm₁).frames = .java _ :: below from (X₁.frames_eq).choose_spec)]
      exact hm1) hcM hlk hfull (by rw [hfr]; exact hnn) with h | h
  · exact ⟨_, Steps.refl _, Or.inl h⟩
  · rw [h]
    obtain ⟨g₀, hg₀⟩ := X₁.frames_eq
    have hu : (((T.setVm vm₁).setTop { g with stack := rest }).pushFrame (.throwNew "java/lang/StackOverflowError" none none)).frames = .throwNew "java/lang/StackOverflowError" none none :: .java { g with stack := rest } :: below := by
      rw [State.frames_pushFrame _ hcur, hfr]
    have heq : ((T.setVm vm₁).setTop { g with stack := rest }).pushFrame (.throwNew "java/lang/StackOverflowError" none none) = (T.setVm vm₁).setFrames (.throwNew "java/lang/StackOverflowError" none none :: .java { g with stack := rest } :: below) := by
      rw [State.pushFrame, hfr, State.setTop_of_frames _ hg₀, State.setFrames_setFrames]
    have hh := X₁.here
    refine ⟨_, Steps.refl _, nx_note (above := [.java { g with stack := rest }]) rfl hu ⟨?_, ?_, ?_⟩ ?_ hc1 hc2⟩
    · rw [heq]; exact hh.running
    · rw [heq, State.curStatus?_setFrames]; exact hh.runnable
    · rw [heq, State.alone_setFrames]; exact hh.alone
    · refine NXV.warm (s := s) ?_ hV
      rw [heq]
      exact hW1
end NXC
