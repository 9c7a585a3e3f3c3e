/-! calls that don't come back -/
def NXT (a : Nat) (s : State) : Prop := (s.threads[s.cur]?).bind (·.mounted) = none ∧ (s.threads[s.cur]?).bind (·.obj) = some a
theorem NXT.fr {a : Nat} {s : State} (h : NXT a s) (fs : List Frame) : NXT a (s.setFrames fs) := by
  unfold NXT at *
  unfold State.setFrames
  cases e : s.threads[s.cur]? with
  | none => rw [e] at h; exact absurd h.2 (by simp)
  | some t =>
    rw [e] at h
    simp only [Array.getElem?_modify, e]
    simpa using h
theorem NXT.eq {a : Nat} {s u : State} (h : NXT a s) (h1 : u.threads = s.threads) (h2 : u.cur = s.cur) : NXT a u := by
  unfold NXT at *
  rw [h1, h2]; exact h
def NXV (s : State) : Prop := (Cond.initialized "java/lang/StackOverflowError").before #[] s = true ∧ (Cond.initialized "java/lang/Thread").before #[] s = true
theorem NXV.warm {s U : State} (hW : s.WarmedH U.vm) (h : NXV s) : NXV U := ⟨word_at hW (Or.inl (by first | rfl | simp [Cond.onTables, Cond.keeps, Cond.steady])) h.1, word_at hW (Or.inl (by first | rfl | simp [Cond.onTables, Cond.keeps, Cond.steady])) h.2⟩
theorem NXV.kls {s : State} {cls : String} (h : (Cond.initialized cls).before #[] s = true) : ∃ c k, s.vm.findClass cls = some c ∧ s.vm.classes[c]? = some k ∧ k.init = .initialized := by
  cases e : s.vm.findClass cls with
  | none => simp [Cond.before, Cond.holds, Cond.value, e] at h
  | some c =>
    cases e2 : s.vm.classes[c]? with
    | none => simp [Cond.before, Cond.holds, Cond.value, e, e2] at h
    | some k => exact ⟨c, k, rfl, e2, Cond.initialized_spec e e2 h⟩
theorem use_len (fs : List Frame) : ∀ n m : Nat, (stackUseFrom n m fs).1 = n + fs.length := by
  induction fs with
  | nil => intro n m; rfl
  | cons f fs ih =>
    intro n m
    cases f with
    | _ =>
      unfold stackUseFrom
      rw [ih, List.length_cons]
      omega
section NX
variable {p : Program} {l : Launch} {e : Env} {R : Room} {s : State} {m : MethodId} {args : Array Value} {below : List Frame} {meth : Method} {c : Code} {T : State} {locs : List Loc} {cells slots : Nat}
theorem NXT.stand {a : Nat} (X : Stand p l e R s m args below meth c T locs cells slots) (h : NXT a s) : NXT a T := by
  have h1 : T.setVm s.vm = { s.setFrames (T.setVm s.vm).frames with heap := (T.setVm s.vm).heap, slotsUsed := (T.setVm s.vm).slotsUsed } := X.same.1
  have h2 : T.threads = (s.setFrames (T.setVm s.vm).frames).threads := by
    have := congrArg State.threads h1
    exact this
  have h3 : T.cur = s.cur := by
    have := congrArg State.cur h1
    exact this
  exact (h.fr (T.setVm s.vm).frames).eq h2 (h3.trans rfl)
/-- where the machine's own overflow is noted, it stops -/
theorem nx_note {tb : Tables} {a : Nat} {u : State} {fs mid : List Frame} (hu : u.frames = .throwNew "java/lang/StackOverflowError" none none :: fs) (hb : fs = mid ++ below) (hgo : u.goesOn) (hT : NXT a u) (hV : NXV u) (ha : u.heap.size + 2 ≤ a) (htr : e.platform.stackTraces = false) : ∃ t, Steps tb e below u t ∧ Dead t := by
  obtain ⟨c, k, h1, h2, h3⟩ := NXV.kls hV.1
  obtain ⟨c', k', h1', h2', h3'⟩ := NXV.kls hV.2
  have hs := stepThrowNew_overflow_stops e u none none fs a c hT.1 hT.2 ha h1 (by rw [h2]; simp [h3]) (by rw [h1']; rfl) (fun h => by rw [htr] at h; cases h)
  refine ⟨_, Steps.head hgo ⟨.throwNew "java/lang/StackOverflowError" none none :: mid, by rw [hu, hb]; rfl, by simp, by simp⟩ (Steps.refl _), ?_⟩
  rw [stepThread_throwNew hu]
  exact hs
end NX
