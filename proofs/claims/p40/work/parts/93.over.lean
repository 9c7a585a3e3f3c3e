/-! the machine's own overflow: where a thread's object names no cell, the machine stops -/
def Stopd (t : State) : Prop := ∃ why, t.status = .stopped why
theorem nx_ann (e : Env) (s : State) (m : MethodId) (desc : String) : (∃ b, ∀ (E : CtlPost) (Q : Bool → Pre) (d : Bool) (acts : List Action), wp (annotated m desc) Q E e d acts s ↔ Q b d acts s) ∨ (∀ (E : CtlPost) (Q : Bool → Pre) (d : Bool) (acts : List Action), ¬ wp (annotated m desc) Q E e d acts s) := by
  cases hk : s.vm.classes[m.cls]? with
  | none => exact Or.inr (fun E Q d acts h => by simp [annotated, hk] at h)
  | some k =>
    cases hcf : k.cf with
    | none => exact Or.inl ⟨false, fun E Q d acts => by simp [annotated, hk, hcf]⟩
    | some cf =>
      have key : ∀ (hp : k.loader = none ∨ ∃ l, k.loader = some l ∧ (s.vm.loaders.any fun x => x.obj == l && x.isPlatform) = true), (∃ b, ∀ (E : CtlPost) (Q : Bool → Pre) (d : Bool) (acts : List Action), wp (annotated m desc) Q E e d acts s ↔ Q b d acts s) ∨ (∀ (E : CtlPost) (Q : Bool → Pre) (d : Bool) (acts : List Action), ¬ wp (annotated m desc) Q E e d acts s) := by
        intro hp
        cases hinfo : cf.methods[m.idx]? with
        | none =>
          refine Or.inr (fun E Q d acts h => ?_)
          rcases hp with hl | ⟨l, hl, hp⟩
          · simp [annotated, hk, hcf, hl, hinfo] at h
          · simp [annotated, hk, hcf, hl, hp, hinfo] at h
        | some info =>
          cases hraw : rawAttribute? cf.constantPool info.attributes "RuntimeVisibleAnnotations" with
          | none =>
            refine Or.inl ⟨false, fun E Q d acts => ?_⟩
            rcases hp with hl | ⟨l, hl, hp⟩
            · simp [annotated, hk, hcf, hl, hinfo, hraw]
            · simp [annotated, hk, hcf, hl, hp, hinfo, hraw]
          | some bytes =>
            by_cases hv : cf.majorVersion < 49
            · refine Or.inl ⟨false, fun E Q d acts => ?_⟩
              rcases hp with hl | ⟨l, hl, hp⟩
              · simp [annotated, hk, hcf, hl, hinfo, hraw, hv]
              · simp [annotated, hk, hcf, hl, hp, hinfo, hraw, hv]
            · cases hu : u2 bytes.toList with
              | none =>
                refine Or.inl ⟨false, fun E Q d acts => ?_⟩
                rcases hp with hl | ⟨l, hl, hp⟩
                · simp [annotated, hk, hcf, hl, hinfo, hraw, hv, hu]
                · simp [annotated, hk, hcf, hl, hp, hinfo, hraw, hv, hu]
              | some nr =>
                obtain ⟨n, rest⟩ := nr
                refine Or.inl ⟨(takenIn (fun i => (cf.constantPool.string? i).isSome) n rest).any fun i => cf.constantPool.string? i == some desc, fun E Q d acts => ?_⟩
                rcases hp with hl | ⟨l, hl, hp⟩
                · simp [annotated, hk, hcf, hl, hinfo, hraw, hv, hu]
                · simp [annotated, hk, hcf, hl, hp, hinfo, hraw, hv, hu]
      cases hl : k.loader with
      | none => exact key (Or.inl hl)
      | some l =>
        cases hp : (s.vm.loaders.any fun x => x.obj == l && x.isPlatform) with
        | false => exact Or.inl ⟨false, fun E Q d acts => by simp [annotated, hk, hcf, hl, hp]⟩
        | true => exact key (Or.inr ⟨l, hl, hp⟩)

theorem nx_loop (e : Env) (s : State) (fs : List Frame) : (∀ (E : CtlPost) (Q : PUnit → Pre) (d : Bool) (acts : List Action), Q () d acts s → wp (do
        for f in fs do
          if let .java g := f then
            if ← annotated g.method "Ljdk/internal/vm/annotation/ReservedStackAccess;" then
              unsupported (.other "a stack overflows while a method marked @ReservedStackAccess is under way: the reserved page is not modelled") : Sem PUnit) Q E e d acts s) ∨ (∀ (E : CtlPost) (Q : PUnit → Pre) (d : Bool) (acts : List Action), ¬ wp (do
        for f in fs do
          if let .java g := f then
            if ← annotated g.method "Ljdk/internal/vm/annotation/ReservedStackAccess;" then
              unsupported (.other "a stack overflows while a method marked @ReservedStackAccess is under way: the reserved page is not modelled") : Sem PUnit) Q E e d acts s) := by
  induction fs with
  | nil => exact Or.inl (fun E Q d acts h => by simpa using h)
  | cons f fs ih =>
    cases f with
    | java g =>
      rcases nx_ann e s g.method "Ljdk/internal/vm/annotation/ReservedStackAccess;" with ⟨b, hb⟩ | hno
      · cases b with
        | false =>
          rcases ih with ih | ih
          · refine Or.inl (fun E Q d acts h => ?_)
            have := ih E Q d acts h
            simp only [wp_bind'] at this
            simp only [List.forIn_cons, wp_bind']
            refine (hb _ _ _ _).mpr ?_
            simpa using this
          · refine Or.inr (fun E Q d acts h => ih E Q d acts ?_)
            simp only [List.forIn_cons, wp_bind'] at h
            have h := (hb _ _ _ _).mp h
            simp only [wp_bind']
            simpa using h
        | true =>
          refine Or.inr (fun E Q d acts h => ?_)
          simp only [List.forIn_cons, wp_bind'] at h
          have h := (hb _ _ _ _).mp h
          simp at h
      · refine Or.inr (fun E Q d acts h => ?_)
        simp only [List.forIn_cons, wp_bind'] at h
        exact hno _ _ _ _ h
    | _ =>
      rcases ih with ih | ih
      · refine Or.inl (fun E Q d acts h => ?_)
        have := ih E Q d acts h
        simpa using this
      · refine Or.inr (fun E Q d acts h => ih E Q d acts (by simpa using h))
theorem nx_full {e : Env} {s : State} {m : MethodId} {args : Array Value} {meth : Method} {c : Code} (hm : s.vm.method? m = some meth) (hc : meth.code = some c) (hlk : meth.locks = false) (hfull : e.platform.stackFull ((s.threads[s.cur]?).getD { frames := [] }) s.frames c.maxLocals = true)
    (hnn : (s.frames.any fun | .thenThrow _ | .throwNew .. => true | _ => false) = false) : Stopd (doInvoke e s [] m args).1 ∨ (doInvoke e s [] m args).1 = s.pushFrame (.throwNew "java/lang/StackOverflowError" none none) := by
  unfold doInvoke
  generalize hT : (do
      let fs ← frames
      let meth ← theMethod m
      let locals := match meth.code with
        | some code => code.maxLocals + (if meth.locks then 2 else 0)
        | none => nativeFrameWords (((s.vm.classes[m.cls]?).map (·.name)).getD "") meth.name (operandWords args.toList)
      let me := (s.threads[s.cur]?).getD { frames := [] }
      if (← ask fun p => p.stackFull me fs locals && (!(fs.any fun | .thenThrow _ | .throwNew .. => true | _ => false) || p.stackFullForThrow me fs locals)) then
        for f in fs do
          if let .java g := f then
            if ← annotated g.method "Ljdk/internal/vm/annotation/ReservedStackAccess;" then
              unsupported (.other "a stack overflows while a method marked @ReservedStackAccess is under way: the reserved page is not modelled")
        mark "vm.invoke/stack-overflow"
        throwNew "java/lang/StackOverflowError"
      newFrame m args : Sem Frame) = T
  have h0 := wp_iff_go T (fun _ _ _ => True) (fun _ _ _ => True) e false [] s
  have h1 := wp_iff_go T (fun _ _ _ => False) (fun c s' _ => c = .throwNew "java/lang/StackOverflowError" none ∧ s' = s) e false [] s
  simp only [unmarked_nil] at h0 h1
  by_cases h : wp T (fun _ _ _ _ => True) (fun _ _ _ => True) e false [] s
  · have hw : wp T (fun _ _ _ _ => False) (fun c _ s' => c = .throwNew "java/lang/StackOverflowError" none ∧ s' = s) e false [] s := by
      rw [← hT] at h ⊢
      have hb : (e.platform.stackFull (s.threads[s.cur]?.getD { frames := [] }) s.frames (c.maxLocals + 0) && (!(s.frames.any fun | .thenThrow _ | .throwNew .. => true | _ => false) || e.platform.stackFullForThrow (s.threads[s.cur]?.getD { frames := [] }) s.frames (c.maxLocals + 0))) = true := by
        rw [Nat.add_zero, hfull, hnn]; rfl
      simp only [wp_bind', W.frames, W.ask, W.theMethod, hm, Option.some.injEq, exists_eq_left', hc, hlk, Bool.false_eq_true, ite_false, if_false] at h ⊢
      rw [if_pos hb] at h ⊢
      simp only [wp_bind'] at h ⊢
      rcases nx_loop e s s.frames with hl | hl
      · have h2 := hl (fun c _ s' => c = .throwNew "java/lang/StackOverflowError" none ∧ s' = s) (fun _ => wp (do
          mark "vm.invoke/stack-overflow"
          throwNew "java/lang/StackOverflowError"
          newFrame m args : Sem Frame) (fun _ _ _ _ => False) (fun c _ s' => c = .throwNew "java/lang/StackOverflowError" none ∧ s' = s) e) false [] (by simp)
        simp only [wp_bind'] at h2
        exact h2
      · exfalso
        refine hl (fun _ _ _ => True) (fun _ => wp (do
          mark "vm.invoke/stack-overflow"
          throwNew "java/lang/StackOverflowError"
          newFrame m args : Sem Frame) (fun _ _ _ _ => True) (fun _ _ _ => True) e) false [] ?_
        simp only [wp_bind']
        exact h
    cases hg : T.go e false [] s with
    | ok a s' acts' => rw [hg] at h1; exact absurd (h1.mp hw) id
    | ctl c s' acts' =>
      rw [hg] at h1
      cases c with
      | stop x => exact absurd (h1.mp hw) id
      | throwNew cls msg =>
        obtain ⟨e1, e2⟩ := h1.mp hw
        cases e1
        subst e2
        exact Or.inr rfl
      | _ => exact absurd (h1.mp hw).1 (fun z => by cases z)
  · refine Or.inl ?_
    cases hg : T.go e false [] s with
    | ok a s' acts' => rw [hg] at h0; exact absurd (h0.mpr trivial) h
    | ctl c s' acts' =>
      cases c with
      | stop x => exact ⟨x, rfl⟩
      | _ => rw [hg] at h0; exact absurd (h0.mpr trivial) h
