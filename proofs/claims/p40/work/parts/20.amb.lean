/-! what holds around every method -/
abbrev FWT : Type := List (String × MethodName × MethodName) × List (String × Nat × MethodName × String)
def Amb (SR : List (String × Nat × String)) (AD : List Jvm.Cond) (FW : FWT) (g : GV) (A : Nat → Prop) (s : State) : Prop :=
  va_Z ALn "DEFAULTCAPACITY_EMPTY_ELEMENTDATA" "[Ljava/lang/Object;" (.ref g.2.2) A s s.heap ∧ (∃ (ty : FieldType) (f : Nat → Value), va_T ty g.2.2 0 f A s s.heap) ∧ (∀ w ∈ AD, va_Nw w s) ∧ (va_AO (ecls 0) s ∧ va_AO (ecls 1) s) ∧ ((∀ q ∈ FW.1, va_Fw q.1 q.2.1 q.2.2 s) ∧ ∀ q ∈ FW.2, va_Nw (.methodLinkNest q.1 q.2.1 q.2.2.1 q.2.2.2) s) ∧ (∀ q ∈ SR, ∃ a, vk_R q.1 q.2.1 q.2.2 a s) ∧
  vx_Zq Bundle.tN "UNASSIGNED_STACK" Bundle.steD A s s.heap ∧ vx_Zq Bundle.tN "SUPPRESSED_SENTINEL" Bundle.listD A s s.heap ∧ (∀ i j, i < 3 → j < 3 → i ≠ j → va_Nc (ename i) (ename j) s)
def ADok (AD : List Jvm.Cond) : Prop := ∀ w ∈ AD, (∃ x, w = .declares x) ∨ ∃ C T, w = .castable C T
def FWok (FW : FWT) : Prop := ∀ q ∈ FW.1, q.2.1.cls ≠ "java/lang/invoke/MethodHandle" ∧ q.2.1.cls ≠ "java/lang/invoke/VarHandle"
theorem Amb.warm {SR : List (String × Nat × String)} {AD : List Jvm.Cond} {FW : FWT} (hAD : ADok AD) (hFW : FWok FW) {g : GV} {A A1 : Nat → Prop} {s U : State} {H : Heap} {locs : List Loc} (h : Amb SR AD FW g A s) (hS : va_S A s.heap H locs) (hU : U.heap = H) (hW : s.WarmedH U.vm) (hsub : ∀ q, A1 q → A q) : Amb SR AD FW g A1 U := by
  obtain ⟨h1, ⟨ty, f, h2⟩, h3, ⟨h4, h5⟩, h6, h7, h8, h9, h10⟩ := h
  have hk : ∀ a : Nat, a < s.heap.size → ¬ A a → U.heap[a]? = s.heap[a]? := fun a h1 h2 => by rw [hU]; exact hS.2.1 a h1 h2
  have hv := hW.alike
  refine ⟨((h1.kept hk).moved hv).narrow hsub, ⟨ty, f, ((h2.kept hk).moved hv).narrow hsub⟩, fun w hw => ?_, ⟨h4.moved hv, h5.moved hv⟩, ⟨fun q hq => (h6.1 q hq).moved (hFW q hq) hv, fun q hq => va_Nw.warmM hW (h6.2 q hq)⟩, fun q hq => ?_, ((h8.kept hk).moved hv).narrow hsub, ((h9.kept hk).moved hv).narrow hsub, fun i j hi hj hij => (h10 i j hi hj hij).moved hv⟩
  · rcases hAD w hw with ⟨x, rfl⟩ | ⟨C, T, rfl⟩
    · exact va_Nw.warmD hW (h3 _ hw)
    · exact va_Nw.warmC hW (h3 _ hw)
  · obtain ⟨a, ha⟩ := h7 q hq
    exact ⟨a, ha.warm hW⟩
theorem Amb.same {SR : List (String × Nat × String)} {AD : List Jvm.Cond} {FW : FWT} (hAD : ADok AD) (hFW : FWok FW) {g : GV} {A : Nat → Prop} {s U : State} (h : Amb SR AD FW g A s) (hU : U.heap = s.heap) (hv : U.vm = s.vm) : Amb SR AD FW g A U := by
  obtain ⟨h1, ⟨ty, f, h2⟩, h3, ⟨h4, h5⟩, h6, h7, h8, h9, h10⟩ := h
  have ha : s.vm.Alike U.vm := by rw [hv]; exact Vm.Alike.refl _
  have e1 := h1.moved ha
  have e2 := h2.moved ha
  have e8 := h8.moved ha
  have e9 := h9.moved ha
  rw [← hU] at e1 e2 e8 e9
  refine ⟨e1, ⟨ty, f, e2⟩, fun w hw => ?_, ⟨h4.moved ha, h5.moved ha⟩, ⟨fun q hq => (h6.1 q hq).moved (hFW q hq) ha, fun q hq => va_Nw.same rfl hv.symm (h6.2 q hq)⟩, fun q hq => ?_, e8, e9, fun i j hi hj hij => (h10 i j hi hj hij).moved ha⟩
  · rcases hAD w hw with ⟨x, rfl⟩ | ⟨C, T, rfl⟩
    · exact va_Nw.same rfl hv.symm (h3 _ hw)
    · exact va_Nw.same rfl hv.symm (h3 _ hw)
  · obtain ⟨a, ha⟩ := h7 q hq
    exact ⟨a, vk_R.same hv ha⟩
def d4 (q : Nat × Nat × Nat × Nat × Nat) : Nat × Nat × Nat × Nat := (q.1, q.2.1, q.2.2.1, q.2.2.2.1)
/-- a throw: the words and the instructions behind 'new' -/
def THK (WB AD : List Jvm.Cond) (SR : List (String × Nat × String)) (md : MD) (pc ec : Nat) : Prop :=
  ∃ (idx is ic : Nat) (text : String) (w : Bool), (mO md, is, text) ∈ SR ∧ ec < 3 ∧ decode (mC md) pc = .ok (.new idx, 3) ∧ decode (mC md) (pc + 3) = .ok (.dup, 1) ∧
    (match w with
      | false => decode (mC md) (pc + 4) = .ok (.ldc is, 2) ∧ decode (mC md) (pc + 6) = .ok (.invokespecial ic, 3) ∧ decode (mC md) (pc + 9) = .ok (.athrow, 1)
      | true => decode (mC md) (pc + 4) = .ok (.ldc_w is, 3) ∧ decode (mC md) (pc + 7) = .ok (.invokespecial ic, 3) ∧ decode (mC md) (pc + 10) = .ok (.athrow, 1)) ∧
    Jvm.Cond.classLink (mO md) idx (ename ec) ∈ WB ∧ Jvm.Cond.initialized (ename ec) ∈ WB ∧ (∀ v ∈ vx_atS (mO md) ic (ename ec) XN, v ∈ WB ∨ v ∈ AD) ∧ mH md = []
/-- a method's own words -/
def cwd (md : MD) : Jvm.Cond := match (mH md).map d4 with
  | [] => .code (mY md) (mC md) (mL md) (mR md)
  | hh => .codeWith (mY md) (mC md) (mL md) (mR md) hh
/-- how a call's link is made -/
def LOK (WB : List Jvm.Cond) (FW : FWT) (TB : List MT) (md : MD) (ie : IE) : Prop :=
  match ie.1 with
  | .invokespecial idx => ie.2.1 = 1000 ∧ Jvm.Cond.methodLink (mO md) idx objectInit ∈ WB ∧ Jvm.Cond.instanceMethod objectInit ∈ WB ∧ Jvm.Cond.code objectInit ⟨#[0xb1]⟩ 1 none ∈ WB ∨ ie.2.1 = 0 ∨
      ∃ mt, TB[ie.2.1]? = some mt ∧ (Jvm.Cond.methodLink (mO md) idx (mY mt.1) ∈ WB ∨ ∃ host, (mO md, idx, mY mt.1, host) ∈ FW.2) ∧ Jvm.Cond.instanceMethod (mY mt.1) ∈ WB ∧ (mY mt.1).name = "<init>" ∧ mR mt.1 = none ∧ mH mt.1 = [] ∧ (parseMethodDescriptor (mY mt.1).desc).map (fun d => d.parameters.length) = some (mN mt.1 - 1) ∧ 0 < mN mt.1
  | .ldc idx => Jvm.Cond.constant (mO md) idx (nI ie.2.1) ∈ WB
  | .ldc_w idx => Jvm.Cond.constant (mO md) idx (nI ie.2.1) ∈ WB
  | .checkcast idx => ∃ q, vwCl[ie.2.1]? = some q ∧ Jvm.Cond.classLink (mO md) idx q.1 ∈ WB
  | .invokestatic idx => ie.2.1 = 1000 ∧ Jvm.Cond.methodLink (mO md) idx arraycopyName ∈ WB ∧ Jvm.Cond.native arraycopyName ∈ WB ∧ Jvm.Cond.static arraycopyName ∈ WB ∧ Jvm.Cond.initialized "java/lang/System" ∈ WB ∨
      ie.2.1 = 1001 ∧ Jvm.Cond.methodLink (mO md) idx Lib.Math.max.name ∈ WB ∧ Jvm.Cond.static Lib.Math.max.name ∈ WB ∧ Jvm.Cond.initialized "java/lang/Math" ∈ WB ∧ Jvm.Cond.code Lib.Math.max.name Lib.Math.max.code 2 (some .int) ∈ WB ∨ ie.2.1 = 0 ∨
      ∃ mt, TB[ie.2.1]? = some mt ∧ (Jvm.Cond.methodLink (mO md) idx (mY mt.1) ∈ WB ∨ (mH mt.1 = [] ∧ mH md = [] ∧ ∃ host, (mO md, idx, mY mt.1, host) ∈ FW.2)) ∧ Jvm.Cond.static (mY mt.1) ∈ WB ∧ (parseMethodDescriptor (mY mt.1).desc).map (fun d => d.parameters.length) = some (mN mt.1)
  | .invokevirtual idx => ie.2.1 = 0 ∨
      ∃ mt, TB[ie.2.1]? = some mt ∧ (Jvm.Cond.methodLink (mO md) idx (mY mt.1) ∈ WB ∨ (mH mt.1 = [] ∧ mH md = [] ∧ ∃ host, (mO md, idx, mY mt.1, host) ∈ FW.2)) ∧ Jvm.Cond.instanceMethod (mY mt.1) ∈ WB ∧ Jvm.Cond.selects (mY mt.1).cls (mY mt.1) (mY mt.1) ∈ WB ∧ (∃ q, vwCl[ie.2.2.1]? = some q ∧ q.1 = (mY mt.1).cls) ∧ (parseMethodDescriptor (mY mt.1).desc).map (fun d => d.parameters.length) = some (mN mt.1 - 1) ∧ 0 < mN mt.1
  | .invokeinterface idx _ => ie.2.1 = 0 ∨
      ∃ mt x, TB[ie.2.1]? = some mt ∧ (ALn, x, mY mt.1) ∈ FW.1 ∧ Jvm.Cond.methodLink (mO md) idx x ∈ WB ∧ Jvm.Cond.instanceMethod (mY mt.1) ∈ WB ∧ Jvm.Cond.selects ALn x (mY mt.1) ∈ WB ∧ (mY mt.1).cls = ALn ∧ ie.2.2.1 = 0 ∧ mH mt.1 = [] ∧ (parseMethodDescriptor x.desc).map (fun d => d.parameters.length) = some (mN mt.1 - 1) ∧ 0 < mN mt.1
  | _ => True
def rtk (r : Option FieldType) : Bool :=
  match r with
  | some (.object _) => true
  | some (.array _) => true
  | _ => false
/-- what a row of the table stands on -/
def IOK (WB AD : List Jvm.Cond) (SR : List (String × Nat × String)) (FW : FWT) (TB : List MT) (md : MD) (pc : Nat) (ie : IE) : Prop :=
  (match ie.1 with
    | .tableswitch _ _ _ _ => ∃ n, decode (mC md) pc = .ok (ie.1, n)
    | i => decode (mC md) pc = .ok (i, ilen i)) ∧
  (match ie.1 with
    | .getfield idx => FOK WB (mO md) idx ie.2.1 ie.2.2.1
    | .putfield idx => FOK WB (mO md) idx ie.2.1 ie.2.2.1 ∧ POK (mO md) (mI md) ie.2.1 ie.2.2.1 ie.2.2.2.1
    | .newarray aty => ((ie.2.1 = 0 ∧ aty = .int) ∨ (ie.2.1 = 1 ∧ aty = .boolean) ∨ (ie.2.1 = 2 ∧ aty = .long)) ∧ Jvm.Cond.arrayClass (newarray.typeOf aty) ∈ WB
    | .anewarray idx => ie.2.1 < 2 ∧ Jvm.Cond.classLink (mO md) idx (ecls ie.2.1) ∈ WB
    | .new idx => match Nat.ble 100 ie.2.1 with
      | true => THK WB AD SR md pc (ie.2.1 - 100)
      | false => NOK WB (mO md) idx ie.2.1 ie.2.2.2.2
    | .return_ => mR md = none
    | .areturn => rtk (mR md) = true
    | .getstatic idx => Jvm.Cond.fieldLink (mO md) idx ALn "DEFAULTCAPACITY_EMPTY_ELEMENTDATA" "[Ljava/lang/Object;" ∈ WB
    | _ => True) ∧ LOK WB FW TB md ie
def HOK (WB : List Jvm.Cond) (md : MD) : Prop := ∀ q ∈ mH md, q.2.2.2.2 < 3 → q.2.2.2.1 ≠ 0 ∧ Jvm.Cond.classLink (mO md) q.2.2.2.1 (ename q.2.2.2.2) ∈ WB
def MOK (WB : List Jvm.Cond) (md : MD) : Prop := mN md ≤ mL md ∧ cwd md ∈ WB ∧ Jvm.Cond.initialized (mY md).cls ∈ WB ∧ plainName (mY md).cls = true ∧ ((mY md).cls ≠ "java/lang/invoke/MethodHandle" ∧ (mY md).cls ≠ "java/lang/invoke/VarHandle") ∧ mO md = (mY md).cls ∧ (mI md = true → (mY md).name = "<init>") ∧ mL md ≤ 60 ∧ HOK WB md
