/-! calls that don't come back: the machine stops, or throws on and on and never leaves the frames that stand below -/
def SOEn : String := "java/lang/StackOverflowError"
def NDFn : String := "java/lang/NoClassDefFoundError"
def Dead (tb : Tables) (e : Env) (below : List Frame) (t : State) : Prop := Stopd t ∨ ((∃ above, t.frames.tail = above ++ below) ∧ ∀ n, ∃ (cls : String) (msg : Option String) (cause : Option Addr) (mid : List Frame), (stepsAlone tb e n t).frames = .throwNew cls msg cause :: (mid ++ t.frames.tail))
theorem Dead.weaken {tb : Tables} {e : Env} {mid below : List Frame} {t : State} (h : Dead tb e (mid ++ below) t) : Dead tb e below t := by
  rcases h with h | ⟨⟨above, h1⟩, h2⟩
  · exact Or.inl h
  · exact Or.inr ⟨⟨above ++ mid, by rw [h1, List.append_assoc]⟩, h2⟩
/-- the start's tables have neither class, and no modules -/
def NXV (s : State) : Prop := s.vm.findClass SOEn = none ∧ s.vm.findClass NDFn = none ∧ s.vm.modules = []
theorem NXV.warm {s U : State} (hW : s.WarmedH U.vm) (h : NXV s) : NXV U := by
  have ha := hW.alike
  refine ⟨by rw [ha.findClass]; exact h.1, by rw [ha.findClass]; exact h.2.1, ?_⟩
  have := congrArg Vm.modules ha.1
  rw [this]
  exact h.2.2
theorem use_len (fs : List Frame) : ∀ n m : Nat, (stackUseFrom n m fs).1 = n + fs.length := by
  induction fs with
  | nil => intro n m; rfl
  | cons f fs ih =>
    intro n m
    cases f with
    | _ =>
      unfold stackUseFrom
      rw [ih, List.length_cons]
      omega
theorem vm_ok {α β : Type} {m : VmM α} {f : α → VmM β} {e : Setting} {vm vm' : Vm} {ms ms' : List String} {a : α} (h : m e vm ms = (.ok a, vm', ms')) : (m >>= f) e vm ms = f a e vm' ms' := by
  show (match m e vm ms with
    | (.ok a, vm', ms') => f a e vm' ms'
    | (.error x, vm', ms') => (.error x, vm', ms')) = _
  rw [h]
theorem vm_er {α β : Type} {m : VmM α} {f : α → VmM β} {e : Setting} {vm vm' : Vm} {ms ms' : List String} {x : LinkFail} (h : m e vm ms = (.error x, vm', ms')) : (m >>= f) e vm ms = (.error x, vm', ms') := by
  show (match m e vm ms with
    | (.ok a, vm', ms') => f a e vm' ms'
    | (.error x, vm', ms') => (.error x, vm', ms')) = _
  rw [h]
/-- a class of the JDK's name space that is nowhere -/
theorem lod_none {name : String} {st : Setting} {vm : Vm} {ms : List String} (h1 : vm.findClass name none = none) (hs : name.startsWith "[" = false) (hb : vm.bootSearch st name = .nothing) : ∃ ms', loadOrDerive none none 300 [] name st vm ms = (.error (.thrown ⟨"java/lang/ClassNotFoundException", name⟩), vm, ms') := by
  unfold loadOrDerive
  rw [vm_ok (show VmM.getVm st vm ms = (.ok vm, vm, ms) from rfl)]
  rw [h1, hs]
  generalize Vm.bootSearch = B at hb ⊢
  refine ⟨"vm.load.bootstrap/not-found" :: ms, ?_⟩
  conv => lhs; whnf
  rw [hb]
  rfl
theorem load_none {name : String} (hn : name = SOEn ∨ name = NDFn) {st : Setting} {vm : Vm} (h1 : vm.findClass name none = none) (h2 : vm.modules = []) (h3 : st.classPath name = none) : ∃ ms, (VmOp.load name).run st vm = (.error (.thrown ⟨NDFn, name⟩), vm, ms) := by
  have hb : vm.bootSearch st name = .nothing := by
    unfold Vm.bootSearch
    rw [h2]
    simp only [List.find?_nil, List.any_nil, Bool.and_false, Bool.false_and, Bool.not_false, h3]
    split <;> rfl
  have hs : name.startsWith "[" = false := by rcases hn with rfl | rfl <;> decide +kernel
  obtain ⟨ms', h⟩ := lod_none (st := st) (ms := []) h1 hs hb
  show ∃ ms, loadClassForLinking name none st vm [] = _
  have h9 : loadClass name none st vm [] = (.error (.thrown ⟨"java/lang/ClassNotFoundException", name⟩), vm, ms') := h
  unfold loadClassForLinking forLinking VmM.catchThrown
  simp only [h9]
  exact ⟨_, rfl⟩
theorem vmDo_none {α : Type} {e : Env} {u : State} {cls : String} {K : ClassId → Sem α} {k : α → State → List Action → Out} (hn : cls = SOEn ∨ cls = NDFn) (h1 : u.vm.findClass cls none = none) (h2 : u.vm.modules = []) (h3 : e.classPath cls = none) : (vmDo e u [] (classNamed cls >>= K) k).1 = u.pushFrame (.throwNew NDFn (some cls) none) := by
  obtain ⟨ms, hrun⟩ := load_none (st := e.toSetting) hn h1 h2 h3
  have hw : wp (classNamed cls >>= K) (fun _ _ _ _ => False) (fun c _ s' => c = .throwNew NDFn (some cls) ∧ s' = u) e false [] u := by
    unfold classNamed vmTry
    simp only [wp_bind', W.vmOp]
    refine ⟨u, ?_, ?_⟩
    · unfold VmOp.lands VmOp.tables
      rw [hrun]
      rw [if_neg (Nat.lt_irrefl _)]
      rfl
    · unfold VmOp.answer
      rw [hrun]
      simp
  have h9 := wp_iff_go (classNamed cls >>= K) (fun _ _ _ => False) (fun c s' _ => c = .throwNew NDFn (some cls) ∧ s' = u) e false [] u
  simp only [unmarked_nil] at h9
  unfold vmDo
  cases hg : (classNamed cls >>= K).go e false [] u with
  | ok a s' acts' => rw [hg] at h9; exact absurd (h9.mp hw) id
  | ctl c s' acts' =>
    rw [hg] at h9
    cases c with
    | stop x => exact absurd (h9.mp hw) id
    | throwNew cls' msg =>
      obtain ⟨e1, e2⟩ := h9.mp hw
      cases e1
      subst e2
      rfl
    | _ => exact absurd (h9.mp hw).1 (fun z => by cases z)
theorem throw_none {e : Env} {u : State} {cls : String} {msg : Option String} {cause : Option Addr} {rest : List Frame} (hn : cls = SOEn ∨ cls = NDFn) (h1 : u.vm.findClass cls none = none) (h2 : u.vm.modules = []) (h3 : e.classPath cls = none) : (stepThrowNew e u cls msg cause rest).1 = u.pushFrame (.throwNew NDFn (some cls) none) := by
  unfold stepThrowNew
  exact vmDo_none hn h1 h2 h3
/-- what is thrown then is thrown on and on -/
theorem never {tb : Tables} {e : Env} (h3 : e.classPath NDFn = none) (n : Nat) : ∀ (u : State) (msg : Option String) (cause : Option Addr) (fs : List Frame), u.frames = .throwNew NDFn msg cause :: fs → u.goesOn → NXV u → ∃ (msg' : Option String) (cause' : Option Addr) (mid : List Frame), (stepsAlone tb e n u).frames = .throwNew NDFn msg' cause' :: (mid ++ fs) := by
  induction n with
  | zero => intro u msg cause fs hu _ _; exact ⟨msg, cause, [], hu⟩
  | succ n ih =>
    intro u msg cause fs hu hgo hV
    rw [stepsAlone_succ _ hgo, stepThread_throwNew hu, throw_none (Or.inr rfl) hV.2.1 hV.2.2 h3]
    have hcur : u.cur < u.threads.size := State.cur_lt_of_frames hu
    have hf : (u.pushFrame (.throwNew NDFn (some NDFn) none)).frames = .throwNew NDFn (some NDFn) none :: (.throwNew NDFn msg cause :: fs) := by rw [State.frames_pushFrame _ hcur, hu]
    obtain ⟨m1, c1, mid, h⟩ := ih (u.pushFrame (.throwNew NDFn (some NDFn) none)) _ _ _ hf ⟨hgo.1, by rw [State.pushFrame, State.curStatus?_setFrames]; exact hgo.2.1, by rw [State.pushFrame, State.alone_setFrames]; exact hgo.2.2⟩ hV
    exact ⟨m1, c1, mid ++ [.throwNew NDFn msg cause], by rw [h, List.append_assoc]; rfl⟩
/-- where the machine's own overflow is noted, it comes to no end -/
theorem nx_note {tb : Tables} {e : Env} {u : State} {fs above below : List Frame} (hb : fs = above ++ below) (hu : u.frames = .throwNew SOEn none none :: fs) (hgo : u.goesOn) (hV : NXV u) (h3 : e.classPath SOEn = none) (h4 : e.classPath NDFn = none) : Dead tb e below u := by
  refine Or.inr ⟨⟨above, by rw [hu, hb]; rfl⟩, fun n => ?_⟩
  rw [hu]
  cases n with
  | zero => exact ⟨SOEn, none, none, [], hu⟩
  | succ n =>
    have hcur : u.cur < u.threads.size := State.cur_lt_of_frames hu
    have hf : (u.pushFrame (.throwNew NDFn (some SOEn) none)).frames = .throwNew NDFn (some SOEn) none :: (.throwNew SOEn none none :: fs) := by rw [State.frames_pushFrame _ hcur, hu]
    rw [stepsAlone_succ _ hgo, stepThread_throwNew hu, throw_none (Or.inl rfl) hV.1 hV.2.2 h3]
    obtain ⟨m1, c1, mid, h⟩ := never (tb := tb) h4 n (u.pushFrame (.throwNew NDFn (some SOEn) none)) _ _ _ hf ⟨hgo.1, by rw [State.pushFrame, State.curStatus?_setFrames]; exact hgo.2.1, by rw [State.pushFrame, State.alone_setFrames]; exact hgo.2.2⟩ hV
    exact ⟨NDFn, m1, c1, mid ++ [.throwNew SOEn none none], by rw [h, List.append_assoc]; rfl⟩
