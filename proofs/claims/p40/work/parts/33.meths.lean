/-! rows of the tables, kind by kind -/
def plainI (i : Instr) : Bool :=
  match i with
  | .return_ | .areturn | .ldc _ | .ldc_w _ | .checkcast _ | .getfield _ | .putfield _ | .getstatic _ | .newarray _ | .anewarray _ | .new _ | .tableswitch _ _ _ _ | .invokespecial _ | .invokestatic _ | .invokevirtual _ | .invokeinterface _ _ => false
  | _ => true
section IO
variable {WB AD : List Jvm.Cond} {SR : List (String × Nat × String)} {FW : FWT} {TB : List MT} {md : MD} {pc x y z : Nat} {fk : List Nat}
theorem io_plain {ins : Instr} (hd : decode (mC md) pc = .ok (ins, ilen ins)) (h : plainI ins = true) : IOK WB AD SR FW TB md pc (ins, x, y, z, fk) := by
  cases ins <;> first | exact ⟨hd, trivial, trivial⟩ | cases (show false = true from h)
theorem io_void (hd : decode (mC md) pc = .ok (.return_, 1)) (h : mR md = none) : IOK WB AD SR FW TB md pc (.return_, x, y, z, fk) := ⟨hd, h, trivial⟩
theorem io_aret (hd : decode (mC md) pc = .ok (.areturn, 1)) (h : rtk (mR md) = true) : IOK WB AD SR FW TB md pc (.areturn, x, y, z, fk) := ⟨hd, h, trivial⟩
theorem io_ldc {idx : Nat} (hd : decode (mC md) pc = .ok (.ldc idx, 2)) (h : Jvm.Cond.constant (mO md) idx (nI x) ∈ WB) : IOK WB AD SR FW TB md pc (.ldc idx, x, y, z, fk) := ⟨hd, trivial, h⟩
theorem io_ldc_w {idx : Nat} (hd : decode (mC md) pc = .ok (.ldc_w idx, 3)) (h : Jvm.Cond.constant (mO md) idx (nI x) ∈ WB) : IOK WB AD SR FW TB md pc (.ldc_w idx, x, y, z, fk) := ⟨hd, trivial, h⟩
theorem io_cast {idx : Nat} (hd : decode (mC md) pc = .ok (.checkcast idx, 3)) (h : ∃ q, vwCl[x]? = some q ∧ Jvm.Cond.classLink (mO md) idx q.1 ∈ WB) : IOK WB AD SR FW TB md pc (.checkcast idx, x, y, z, fk) := ⟨hd, trivial, h⟩
theorem io_get {idx : Nat} (hd : decode (mC md) pc = .ok (.getfield idx, 3)) (h : FOK WB (mO md) idx x y) : IOK WB AD SR FW TB md pc (.getfield idx, x, y, z, fk) := ⟨hd, h, trivial⟩
theorem io_put {idx : Nat} (hd : decode (mC md) pc = .ok (.putfield idx, 3)) (h : FOK WB (mO md) idx x y) (h2 : POK (mO md) (mI md) x y z) : IOK WB AD SR FW TB md pc (.putfield idx, x, y, z, fk) := ⟨hd, ⟨h, h2⟩, trivial⟩
theorem io_gets {idx : Nat} (hd : decode (mC md) pc = .ok (.getstatic idx, 3)) (h : Jvm.Cond.fieldLink (mO md) idx ALn "DEFAULTCAPACITY_EMPTY_ELEMENTDATA" "[Ljava/lang/Object;" ∈ WB) : IOK WB AD SR FW TB md pc (.getstatic idx, x, y, z, fk) := ⟨hd, h, trivial⟩
theorem io_newa {aty : ArrayType} (hd : decode (mC md) pc = .ok (.newarray aty, 2)) (h : (x = 0 ∧ aty = .int) ∨ (x = 1 ∧ aty = .boolean) ∨ (x = 2 ∧ aty = .long)) (h2 : Jvm.Cond.arrayClass (newarray.typeOf aty) ∈ WB) : IOK WB AD SR FW TB md pc (.newarray aty, x, y, z, fk) := ⟨hd, ⟨h, h2⟩, trivial⟩
theorem io_newq {idx : Nat} (hd : decode (mC md) pc = .ok (.anewarray idx, 3)) (h : x < 2) (h2 : Jvm.Cond.classLink (mO md) idx (ecls x) ∈ WB) : IOK WB AD SR FW TB md pc (.anewarray idx, x, y, z, fk) := ⟨hd, ⟨h, h2⟩, trivial⟩
theorem io_new {idx : Nat} (hd : decode (mC md) pc = .ok (.new idx, 3)) (h : Nat.ble 100 x = false) (h2 : NOK WB (mO md) idx x fk) : IOK WB AD SR FW TB md pc (.new idx, x, y, z, fk) := by
  refine ⟨hd, ?_, trivial⟩
  show (match Nat.ble 100 x with
    | true => THK WB AD SR md pc (x - 100)
    | false => NOK WB (mO md) idx x fk)
  rw [h]
  exact h2
theorem io_thr {idx : Nat} (h : Nat.ble 100 x = true) (h2 : THK WB AD SR md pc (x - 100)) (hd : decode (mC md) pc = .ok (.new idx, 3)) : IOK WB AD SR FW TB md pc (.new idx, x, y, z, fk) := by
  refine ⟨hd, ?_, trivial⟩
  show (match Nat.ble 100 x with
    | true => THK WB AD SR md pc (x - 100)
    | false => NOK WB (mO md) idx x fk)
  rw [h]
  exact h2
theorem io_thx {idx : Nat} (ec : Nat) (hx : x = ec + 100) (h2 : THK WB AD SR md pc ec) (hd : decode (mC md) pc = .ok (.new idx, 3)) : IOK WB AD SR FW TB md pc (.new idx, x, y, z, fk) := by
  subst hx
  have e : ec + 100 - 100 = ec := by omega
  exact io_thr (Nat.ble_eq_true_of_le (by omega)) (by rw [e]; exact h2) hd
theorem thk_mk (own : String) (ho : mO md = own) (idx is ic ec : Nat) (text : String) (w : Bool) (h1 : (own, is, text) ∈ SR) (h2 : ec < 3) (h3 : decode (mC md) pc = .ok (.new idx, 3)) (h4 : decode (mC md) (pc + 3) = .ok (.dup, 1))
    (h5 : match w with
      | false => decode (mC md) (pc + 4) = .ok (.ldc is, 2) ∧ decode (mC md) (pc + 6) = .ok (.invokespecial ic, 3) ∧ decode (mC md) (pc + 9) = .ok (.athrow, 1)
      | true => decode (mC md) (pc + 4) = .ok (.ldc_w is, 3) ∧ decode (mC md) (pc + 7) = .ok (.invokespecial ic, 3) ∧ decode (mC md) (pc + 10) = .ok (.athrow, 1))
    (h6 : Jvm.Cond.classLink own idx (ename ec) ∈ WB) (h7 : Jvm.Cond.initialized (ename ec) ∈ WB) (h8 : ∀ v ∈ vx_atS own ic (ename ec) XN, v ∈ WB ∨ v ∈ AD) (h9 : mH md = []) : THK WB AD SR md pc ec := by
  subst ho
  exact ⟨idx, is, ic, text, w, h1, h2, h3, h4, h5, h6, h7, h8, h9⟩
theorem io_tsw {d lo hi : Int} {offs : Array Int} (hd : ∃ n, decode (mC md) pc = .ok (.tableswitch d lo hi offs, n)) : IOK WB AD SR FW TB md pc (.tableswitch d lo hi offs, x, y, z, fk) := ⟨hd, trivial, trivial⟩
theorem io_obj {idx : Nat} (hd : decode (mC md) pc = .ok (.invokespecial idx, 3)) (h1 : Jvm.Cond.methodLink (mO md) idx objectInit ∈ WB) (h2 : Jvm.Cond.instanceMethod objectInit ∈ WB) (h3 : Jvm.Cond.code objectInit ⟨#[0xb1]⟩ 1 none ∈ WB) : IOK WB AD SR FW TB md pc (.invokespecial idx, 1000, y, z, fk) := ⟨hd, trivial, Or.inl ⟨rfl, h1, h2, h3⟩⟩
theorem io_copy {idx : Nat} (hd : decode (mC md) pc = .ok (.invokestatic idx, 3)) (h1 : Jvm.Cond.methodLink (mO md) idx arraycopyName ∈ WB) (h2 : Jvm.Cond.native arraycopyName ∈ WB) (h3 : Jvm.Cond.static arraycopyName ∈ WB) (h4 : Jvm.Cond.initialized "java/lang/System" ∈ WB) : IOK WB AD SR FW TB md pc (.invokestatic idx, 1000, y, z, fk) := ⟨hd, trivial, Or.inl ⟨rfl, h1, h2, h3, h4⟩⟩
theorem io_max {idx : Nat} (hd : decode (mC md) pc = .ok (.invokestatic idx, 3)) (h1 : Jvm.Cond.methodLink (mO md) idx Lib.Math.max.name ∈ WB) (h2 : Jvm.Cond.static Lib.Math.max.name ∈ WB) (h3 : Jvm.Cond.initialized "java/lang/Math" ∈ WB) (h4 : Jvm.Cond.code Lib.Math.max.name Lib.Math.max.code 2 (some .int) ∈ WB) : IOK WB AD SR FW TB md pc (.invokestatic idx, 1001, y, z, fk) := ⟨hd, trivial, Or.inr (Or.inl ⟨rfl, h1, h2, h3, h4⟩)⟩
theorem io_spec {idx : Nat} {mt : MT} (hd : decode (mC md) pc = .ok (.invokespecial idx, 3)) (ht : TB[x]? = some mt) (h1 : Jvm.Cond.methodLink (mO md) idx (mY mt.1) ∈ WB ∨ ∃ host, (mO md, idx, mY mt.1, host) ∈ FW.2) (h2 : Jvm.Cond.instanceMethod (mY mt.1) ∈ WB) (h3 : (mY mt.1).name = "<init>") (h4 : mR mt.1 = none) (h5 : mH mt.1 = []) (h6 : (parseMethodDescriptor (mY mt.1).desc).map (fun d => d.parameters.length) = some (mN mt.1 - 1)) (h7 : 0 < mN mt.1) : IOK WB AD SR FW TB md pc (.invokespecial idx, x, y, z, fk) := ⟨hd, trivial, Or.inr (Or.inr ⟨mt, ht, h1, h2, h3, h4, h5, h6, h7⟩)⟩
theorem io_stat {idx : Nat} {mt : MT} (hd : decode (mC md) pc = .ok (.invokestatic idx, 3)) (ht : TB[x]? = some mt) (h1 : Jvm.Cond.methodLink (mO md) idx (mY mt.1) ∈ WB ∨ (mH mt.1 = [] ∧ mH md = [] ∧ ∃ host, (mO md, idx, mY mt.1, host) ∈ FW.2)) (h2 : Jvm.Cond.static (mY mt.1) ∈ WB) (h6 : (parseMethodDescriptor (mY mt.1).desc).map (fun d => d.parameters.length) = some (mN mt.1)) : IOK WB AD SR FW TB md pc (.invokestatic idx, x, y, z, fk) := ⟨hd, trivial, Or.inr (Or.inr (Or.inr ⟨mt, ht, h1, h2, h6⟩))⟩
theorem io_virt {idx : Nat} {mt : MT} (hd : decode (mC md) pc = .ok (.invokevirtual idx, 3)) (ht : TB[x]? = some mt) (h1 : Jvm.Cond.methodLink (mO md) idx (mY mt.1) ∈ WB ∨ (mH mt.1 = [] ∧ mH md = [] ∧ ∃ host, (mO md, idx, mY mt.1, host) ∈ FW.2)) (h2 : Jvm.Cond.instanceMethod (mY mt.1) ∈ WB) (h3 : Jvm.Cond.selects (mY mt.1).cls (mY mt.1) (mY mt.1) ∈ WB) (h4 : ∃ q, vwCl[y]? = some q ∧ q.1 = (mY mt.1).cls) (h6 : (parseMethodDescriptor (mY mt.1).desc).map (fun d => d.parameters.length) = some (mN mt.1 - 1)) (h7 : 0 < mN mt.1) : IOK WB AD SR FW TB md pc (.invokevirtual idx, x, y, z, fk) := ⟨hd, trivial, Or.inr ⟨mt, ht, h1, h2, h3, h4, h6, h7⟩⟩
theorem io_face {idx cnt : Nat} {mt : MT} {xn : MethodName} (hd : decode (mC md) pc = .ok (.invokeinterface idx cnt, 5)) (ht : TB[x]? = some mt) (h0 : (ALn, xn, mY mt.1) ∈ FW.1) (h1 : Jvm.Cond.methodLink (mO md) idx xn ∈ WB) (h2 : Jvm.Cond.instanceMethod (mY mt.1) ∈ WB) (h3 : Jvm.Cond.selects ALn xn (mY mt.1) ∈ WB) (h4 : (mY mt.1).cls = ALn) (h8 : y = 0) (h5 : mH mt.1 = []) (h6 : (parseMethodDescriptor xn.desc).map (fun d => d.parameters.length) = some (mN mt.1 - 1)) (h7 : 0 < mN mt.1) : IOK WB AD SR FW TB md pc (.invokeinterface idx cnt, x, y, z, fk) := ⟨hd, trivial, Or.inr ⟨mt, xn, ht, h0, h1, h2, h3, h4, h8, h5, h6, h7⟩⟩
end IO
theorem nok_fk {fk : List Nat} {N : Nat} {ty : Nat → FieldType} (h : ((List.range N).all fun j => match fk[j]? with | some z => kindok z (ty j) | none => false) = true) : ∀ j, j < N → ∃ z, fk[j]? = some z ∧ kindok z (ty j) = true := by
  intro j hj
  have h2 := List.all_eq_true.mp h j (List.mem_range.mpr hj)
  cases e : fk[j]? with
  | none => simp [e] at h2
  | some z => simp [e] at h2; exact ⟨z, rfl, h2⟩
theorem at_of {L : List Jvm.Cond} (h : ∀ w ∈ L, w ∈ lw_tbl) (h2 : L.all (fun w => goodWord w || adk w) = true) : ∀ v ∈ L, v ∈ WB ∨ v ∈ AD := by
  intro v hv
  have h3 := List.all_eq_true.mp h2 v hv
  cases hg : goodWord v with
  | true => exact Or.inl (wb_of (h v hv) hg)
  | false => rw [hg] at h3; exact Or.inr (ad_of (h v hv) (by simpa using h3))
def RowsOK (mt : MT) (tf : List (Nat × Step)) : Prop := tf = mt.2.map (fun q => (q.1, stepOf NPf mt.1 q.2)) ∧ ∀ q ∈ mt.2, IOK WB AD SR FW TB mt.1 q.1 q.2
theorem rows_app {md : MD} {a b : List (Nat × IE)} {ta tb : List (Nat × Step)} (h1 : RowsOK (md, a) ta) (h2 : RowsOK (md, b) tb) : RowsOK (md, a ++ b) (ta ++ tb) := ⟨by rw [h1.1, h2.1]; exact (List.map_append).symm, List.forall_mem_append.mpr ⟨h1.2, h2.2⟩⟩
theorem no_RL_8 : NOK WB RL 8 11 [2, 2, 2, 2, 2, 2, 2, 2, 0, 0] := ⟨RX10, TX10, 10, tyX10, rfl, uw_11, tyX10_ok, (wb_1 35 rfl rfl), (wb_1 36 rfl rfl), (wb_1 1 rfl rfl), rfl, nok_fk rfl⟩
theorem no_RL_127 : NOK WB RL 127 18 [0, 0, 2, 2, 0, 2, 2, 2, 2, 2, 2, 2, 2, 2, 2, 2, 2, 2, 1, 1, 2, 2, 2, 0, 0, 1, 0, 0, 2, 2, 2, 2, 2, 2, 2, 2, 2, 2, 0, 0, 0, 2, 2, 0, 2] := ⟨RX17, TX17, 45, tyX17, rfl, uw_18, tyX17_ok, (wb_7 40 rfl rfl), (wb_7 41 rfl rfl), (wb_1 13 rfl rfl), rfl, nok_fk rfl⟩
theorem fo_RX8_9 : FOK WB RX8 9 9 1 := ⟨RX8, TX8, 11, "RuleForge$Terms", rfl, uw_9, by decide, (wb_1 120 rfl rfl), Or.inl rfl⟩
theorem fo_RX8_37 : FOK WB RX8 37 9 0 := ⟨RX8, TX8, 11, "RuleForge$Terms", rfl, uw_9, by decide, (wb_1 117 rfl rfl), Or.inl rfl⟩
theorem fo_RX8_90 : FOK WB RX8 90 8 5 := ⟨RX7, TX7, 11, "RuleForge$Signature", rfl, uw_8, by decide, (wb_1 70 rfl rfl), Or.inl rfl⟩
theorem fo_RX8_97 : FOK WB RX8 97 8 6 := ⟨RX7, TX7, 11, "RuleForge$Signature", rfl, uw_8, by decide, (wb_1 75 rfl rfl), Or.inl rfl⟩
theorem fo_RX8_41 : FOK WB RX8 41 9 4 := ⟨RX8, TX8, 11, "RuleForge$Terms", rfl, uw_9, by decide, (wb_1 135 rfl rfl), Or.inl rfl⟩
theorem po_RX8_0_9_4_0 : POK RX8 false 9 4 0 := ⟨RX8, TX8, 11, tyX8, rfl, tyX8_ok, nmX8, rfl, Or.inl rfl⟩
theorem fo_RX8_19 : FOK WB RX8 19 9 3 := ⟨RX8, TX8, 11, "RuleForge$Terms", rfl, uw_9, by decide, (wb_1 134 rfl rfl), Or.inl rfl⟩
theorem fo_RX8_22 : FOK WB RX8 22 9 5 := ⟨RX8, TX8, 11, "RuleForge$Terms", rfl, uw_9, by decide, (wb_1 137 rfl rfl), Or.inl rfl⟩
theorem fo_RX8_25 : FOK WB RX8 25 9 6 := ⟨RX8, TX8, 11, "RuleForge$Terms", rfl, uw_9, by decide, (wb_1 138 rfl rfl), Or.inl rfl⟩
theorem fo_RX8_15 : FOK WB RX8 15 9 2 := ⟨RX8, TX8, 11, "RuleForge$Terms", rfl, uw_9, by decide, (wb_1 127 rfl rfl), Or.inl rfl⟩
theorem po_RX8_0_9_2_0 : POK RX8 false 9 2 0 := ⟨RX8, TX8, 11, tyX8, rfl, tyX8_ok, nmX8, rfl, Or.inl rfl⟩
theorem fo_RX8_31 : FOK WB RX8 31 9 8 := ⟨RX8, TX8, 11, "RuleForge$Terms", rfl, uw_9, by decide, (wb_1 143 rfl rfl), Or.inl rfl⟩
theorem fo_RX8_44 : FOK WB RX8 44 9 10 := ⟨RX8, TX8, 11, "RuleForge$Terms", rfl, uw_9, by decide, (wb_1 149 rfl rfl), Or.inl rfl⟩
theorem fo_RX17_125 : FOK WB RX17 125 17 2 := ⟨RX16, TX16, 6, "RuleForgeModel$Term", rfl, uw_17, by decide, (wb_7 84 rfl rfl), Or.inl rfl⟩
theorem fo_RX6_42 : FOK WB RX6 42 7 4 := ⟨RX6, TX6, 10, "RuleForge$Reducer", rfl, uw_7, by decide, (wb_2 108 rfl rfl), Or.inl rfl⟩
theorem fo_RX6_21 : FOK WB RX6 21 7 8 := ⟨RX6, TX6, 10, "RuleForge$Reducer", rfl, uw_7, by decide, (wb_2 112 rfl rfl), Or.inl rfl⟩
theorem fo_RX6_18 : FOK WB RX6 18 7 7 := ⟨RX6, TX6, 10, "RuleForge$Reducer", rfl, uw_7, by decide, (wb_2 111 rfl rfl), Or.inl rfl⟩
theorem fo_RX6_33 : FOK WB RX6 33 7 0 := ⟨RX6, TX6, 10, "RuleForge$Reducer", rfl, uw_7, by decide, (wb_2 97 rfl rfl), Or.inl rfl⟩
theorem po_RX6_0_7_4_0 : POK RX6 false 7 4 0 := ⟨RX6, TX6, 10, tyX6, rfl, tyX6_ok, nmX6, rfl, Or.inl rfl⟩
theorem fo_RX6_67 : FOK WB RX6 67 9 1 := ⟨RX8, TX8, 11, "RuleForge$Terms", rfl, uw_9, by decide, (wb_1 123 rfl rfl), Or.inl rfl⟩
theorem fo_RX6_11 : FOK WB RX6 11 7 5 := ⟨RX6, TX6, 10, "RuleForge$Reducer", rfl, uw_7, by decide, (wb_2 109 rfl rfl), Or.inl rfl⟩
theorem fo_RX6_24 : FOK WB RX6 24 7 9 := ⟨RX6, TX6, 10, "RuleForge$Reducer", rfl, uw_7, by decide, (wb_2 113 rfl rfl), Or.inl rfl⟩
theorem fo_RX6_70 : FOK WB RX6 70 9 4 := ⟨RX8, TX8, 11, "RuleForge$Terms", rfl, uw_9, by decide, (wb_1 136 rfl rfl), Or.inl rfl⟩
theorem fo_RX6_15 : FOK WB RX6 15 7 6 := ⟨RX6, TX6, 10, "RuleForge$Reducer", rfl, uw_7, by decide, (wb_2 110 rfl rfl), Or.inl rfl⟩
theorem fo_RX6_60 : FOK WB RX6 60 9 2 := ⟨RX8, TX8, 11, "RuleForge$Terms", rfl, uw_9, by decide, (wb_1 130 rfl rfl), Or.inl rfl⟩
theorem fo_RX17_304 : FOK WB RX17 304 18 25 := ⟨RX17, TX17, 45, "RuleForgeModel", rfl, uw_18, by decide, (wb_7 128 rfl rfl), Or.inl rfl⟩
theorem fo_RX17_308 : FOK WB RX17 308 17 4 := ⟨RX16, TX16, 6, "RuleForgeModel$Term", rfl, uw_17, by decide, (wb_7 88 rfl rfl), Or.inl rfl⟩
theorem fo_RX16_15 : FOK WB RX16 15 17 0 := ⟨RX16, TX16, 6, "RuleForgeModel$Term", rfl, uw_17, by decide, (wb_7 79 rfl rfl), Or.inl rfl⟩
theorem fo_RX3_102 : FOK WB RX3 102 4 5 := ⟨RX3, TX3, 16, "RuleForge$Matcher", rfl, uw_4, by decide, (wb_2 39 rfl rfl), Or.inl rfl⟩
theorem fo_RX3_90 : FOK WB RX3 90 4 13 := ⟨RX3, TX3, 16, "RuleForge$Matcher", rfl, uw_4, by decide, (wb_2 47 rfl rfl), Or.inl rfl⟩
theorem fo_RX3_93 : FOK WB RX3 93 4 15 := ⟨RX3, TX3, 16, "RuleForge$Matcher", rfl, uw_4, by decide, (wb_2 55 rfl rfl), Or.inl rfl⟩
theorem fo_RX3_38 : FOK WB RX3 38 4 0 := ⟨RX3, TX3, 16, "RuleForge$Matcher", rfl, uw_4, by decide, (wb_2 34 rfl rfl), Or.inl rfl⟩
theorem fo_RX3_140 : FOK WB RX3 140 9 1 := ⟨RX8, TX8, 11, "RuleForge$Terms", rfl, uw_9, by decide, (wb_1 124 rfl rfl), Or.inl rfl⟩
theorem po_RX3_0_4_15_0 : POK RX3 false 4 15 0 := ⟨RX3, TX3, 16, tyX3, rfl, tyX3_ok, nmX3, rfl, Or.inl rfl⟩
theorem fo_RX17_54 : FOK WB RX17 54 18 15 := ⟨RX17, TX17, 45, "RuleForgeModel", rfl, uw_18, by decide, (wb_7 118 rfl rfl), Or.inl rfl⟩
theorem fo_RX17_301 : FOK WB RX17 301 18 26 := ⟨RX17, TX17, 45, "RuleForgeModel", rfl, uw_18, by decide, (wb_7 129 rfl rfl), Or.inl rfl⟩
theorem fo_RX17_236 : FOK WB RX17 236 18 39 := ⟨RX17, TX17, 45, "RuleForgeModel", rfl, uw_18, by decide, (wb_7 142 rfl rfl), Or.inl rfl⟩
theorem po_RX17_0_18_39_0 : POK RX17 false 18 39 0 := ⟨RX17, TX17, 45, tyX17, rfl, tyX17_ok, nmX17, rfl, Or.inl rfl⟩
theorem fo_RX17_230 : FOK WB RX17 230 18 40 := ⟨RX17, TX17, 45, "RuleForgeModel", rfl, uw_18, by decide, (wb_7 143 rfl rfl), Or.inl rfl⟩
theorem po_RX17_0_18_40_0 : POK RX17 false 18 40 0 := ⟨RX17, TX17, 45, tyX17, rfl, tyX17_ok, nmX17, rfl, Or.inl rfl⟩
theorem fo_RX17_227 : FOK WB RX17 227 18 38 := ⟨RX17, TX17, 45, "RuleForgeModel", rfl, uw_18, by decide, (wb_7 141 rfl rfl), Or.inl rfl⟩
theorem po_RX17_0_18_38_0 : POK RX17 false 18 38 0 := ⟨RX17, TX17, 45, tyX17, rfl, tyX17_ok, nmX17, rfl, Or.inl rfl⟩
theorem fo_RX4_106 : FOK WB RX4 106 5 9 := ⟨RX4, TX4, 16, "RuleForge$Pieces", rfl, uw_5, by decide, (wb_1 231 rfl rfl), Or.inl rfl⟩
theorem po_RX4_0_5_9_0 : POK RX4 false 5 9 0 := ⟨RX4, TX4, 16, tyX4, rfl, tyX4_ok, nmX4, rfl, Or.inl rfl⟩
theorem fo_RX4_56 : FOK WB RX4 56 5 2 := ⟨RX4, TX4, 16, "RuleForge$Pieces", rfl, uw_5, by decide, (wb_1 220 rfl rfl), Or.inl rfl⟩
theorem fo_RX4_27 : FOK WB RX4 27 5 8 := ⟨RX4, TX4, 16, "RuleForge$Pieces", rfl, uw_5, by decide, (wb_1 228 rfl rfl), Or.inl rfl⟩
theorem fo_RX4_30 : FOK WB RX4 30 5 10 := ⟨RX4, TX4, 16, "RuleForge$Pieces", rfl, uw_5, by decide, (wb_1 232 rfl rfl), Or.inl rfl⟩
theorem fo_RX4_45 : FOK WB RX4 45 5 0 := ⟨RX4, TX4, 16, "RuleForge$Pieces", rfl, uw_5, by decide, (wb_1 218 rfl rfl), Or.inl rfl⟩
theorem fo_RX4_76 : FOK WB RX4 76 9 2 := ⟨RX8, TX8, 11, "RuleForge$Terms", rfl, uw_9, by decide, (wb_1 131 rfl rfl), Or.inl rfl⟩
theorem fo_RX4_113 : FOK WB RX4 113 5 15 := ⟨RX4, TX4, 16, "RuleForge$Pieces", rfl, uw_5, by decide, (wb_2 0 rfl rfl), Or.inl rfl⟩
theorem po_RX4_0_5_15_0 : POK RX4 false 5 15 0 := ⟨RX4, TX4, 16, tyX4, rfl, tyX4_ok, nmX4, rfl, Or.inl rfl⟩
theorem fo_RX4_33 : FOK WB RX4 33 5 11 := ⟨RX4, TX4, 16, "RuleForge$Pieces", rfl, uw_5, by decide, (wb_1 234 rfl rfl), Or.inl rfl⟩
theorem fo_RX4_60 : FOK WB RX4 60 9 1 := ⟨RX8, TX8, 11, "RuleForge$Terms", rfl, uw_9, by decide, (wb_1 121 rfl rfl), Or.inl rfl⟩
theorem fo_RX4_11 : FOK WB RX4 11 5 3 := ⟨RX4, TX4, 16, "RuleForge$Pieces", rfl, uw_5, by decide, (wb_1 221 rfl rfl), Or.inl rfl⟩
theorem po_RX4_0_9_2_0 : POK RX4 false 9 2 0 := ⟨RX8, TX8, 11, tyX8, rfl, tyX8_ok, nmX8, rfl, Or.inl rfl⟩
theorem fo_RX3_52 : FOK WB RX3 52 4 2 := ⟨RX3, TX3, 16, "RuleForge$Matcher", rfl, uw_4, by decide, (wb_2 36 rfl rfl), Or.inl rfl⟩
theorem fo_RX3_69 : FOK WB RX3 69 5 9 := ⟨RX4, TX4, 16, "RuleForge$Pieces", rfl, uw_5, by decide, (wb_1 230 rfl rfl), Or.inl rfl⟩
theorem fo_RX3_73 : FOK WB RX3 73 5 10 := ⟨RX4, TX4, 16, "RuleForge$Pieces", rfl, uw_5, by decide, (wb_1 233 rfl rfl), Or.inl rfl⟩
theorem fo_RX3_11 : FOK WB RX3 11 4 3 := ⟨RX3, TX3, 16, "RuleForge$Matcher", rfl, uw_4, by decide, (wb_2 37 rfl rfl), Or.inl rfl⟩
theorem fo_RX3_76 : FOK WB RX3 76 5 3 := ⟨RX4, TX4, 16, "RuleForge$Pieces", rfl, uw_5, by decide, (wb_1 222 rfl rfl), Or.inl rfl⟩
theorem fo_RX3_83 : FOK WB RX3 83 5 15 := ⟨RX4, TX4, 16, "RuleForge$Pieces", rfl, uw_5, by decide, (wb_1 239 rfl rfl), Or.inl rfl⟩
theorem fo_RX3_86 : FOK WB RX3 86 4 14 := ⟨RX3, TX3, 16, "RuleForge$Matcher", rfl, uw_4, by decide, (wb_2 51 rfl rfl), Or.inl rfl⟩
theorem po_RX3_0_4_14_0 : POK RX3 false 4 14 0 := ⟨RX3, TX3, 16, tyX3, rfl, tyX3_ok, nmX3, rfl, Or.inl rfl⟩
theorem fo_RX3_87 : FOK WB RX3 87 9 2 := ⟨RX8, TX8, 11, "RuleForge$Terms", rfl, uw_9, by decide, (wb_1 129 rfl rfl), Or.inl rfl⟩
theorem po_RX3_0_4_13_0 : POK RX3 false 4 13 0 := ⟨RX3, TX3, 16, tyX3, rfl, tyX3_ok, nmX3, rfl, Or.inl rfl⟩
theorem fo_RX3_96 : FOK WB RX3 96 4 12 := ⟨RX3, TX3, 16, "RuleForge$Matcher", rfl, uw_4, by decide, (wb_2 46 rfl rfl), Or.inl rfl⟩
theorem po_RX3_0_4_12_0 : POK RX3 false 4 12 0 := ⟨RX3, TX3, 16, tyX3, rfl, tyX3_ok, nmX3, rfl, Or.inl rfl⟩
theorem po_RX3_0_4_5_0 : POK RX3 false 4 5 0 := ⟨RX3, TX3, 16, tyX3, rfl, tyX3_ok, nmX3, rfl, Or.inl rfl⟩
theorem fo_RX3_17 : FOK WB RX3 17 4 4 := ⟨RX3, TX3, 16, "RuleForge$Matcher", rfl, uw_4, by decide, (wb_2 38 rfl rfl), Or.inl rfl⟩
theorem fo_RX3_111 : FOK WB RX3 111 5 8 := ⟨RX4, TX4, 16, "RuleForge$Pieces", rfl, uw_5, by decide, (wb_1 229 rfl rfl), Or.inl rfl⟩
theorem po_RX3_0_9_2_0 : POK RX3 false 9 2 0 := ⟨RX8, TX8, 11, tyX8, rfl, tyX8_ok, nmX8, rfl, Or.inl rfl⟩
theorem fo_RX6_34 : FOK WB RX6 34 7 1 := ⟨RX6, TX6, 10, "RuleForge$Reducer", rfl, uw_7, by decide, (wb_2 99 rfl rfl), Or.inl rfl⟩
theorem fo_RX6_90 : FOK WB RX6 90 3 2 := ⟨RX2, TX2, 5, "RuleForge$Laws", rfl, uw_3, by decide, (wb_1 185 rfl rfl), Or.inl rfl⟩
theorem fo_RX6_38 : FOK WB RX6 38 7 2 := ⟨RX6, TX6, 10, "RuleForge$Reducer", rfl, uw_7, by decide, (wb_2 102 rfl rfl), Or.inl rfl⟩
theorem fo_RX6_105 : FOK WB RX6 105 4 13 := ⟨RX3, TX3, 16, "RuleForge$Matcher", rfl, uw_4, by decide, (wb_2 49 rfl rfl), Or.inl rfl⟩
theorem fo_RX6_108 : FOK WB RX6 108 4 14 := ⟨RX3, TX3, 16, "RuleForge$Matcher", rfl, uw_4, by decide, (wb_2 53 rfl rfl), Or.inl rfl⟩
theorem fo_RX6_115 : FOK WB RX6 115 7 3 := ⟨RX6, TX6, 10, "RuleForge$Reducer", rfl, uw_7, by decide, (wb_2 105 rfl rfl), Or.inl rfl⟩
theorem po_RX6_0_7_3_0 : POK RX6 false 7 3 0 := ⟨RX6, TX6, 10, tyX6, rfl, tyX6_ok, nmX6, rfl, Or.inl rfl⟩
theorem fo_RJx4a65c_48 : FOK WB RJx4a65c 48 0 2 := ⟨RJx4a65c, TJx4a65c, 3, "java/util/ArrayList", rfl, uw_0, by decide, (wb_7 61 rfl rfl), Or.inl rfl⟩
theorem po_RX4_0_5_2_0 : POK RX4 false 5 2 0 := ⟨RX4, TX4, 16, tyX4, rfl, tyX4_ok, nmX4, rfl, Or.inl rfl⟩
theorem fo_RX2_15 : FOK WB RX2 15 3 0 := ⟨RX2, TX2, 5, "RuleForge$Laws", rfl, uw_3, by decide, (wb_1 180 rfl rfl), Or.inl rfl⟩
theorem fo_RX2_37 : FOK WB RX2 37 9 1 := ⟨RX8, TX8, 11, "RuleForge$Terms", rfl, uw_9, by decide, (wb_1 125 rfl rfl), Or.inl rfl⟩
theorem fo_RX2_25 : FOK WB RX2 25 3 1 := ⟨RX2, TX2, 5, "RuleForge$Laws", rfl, uw_3, by decide, (wb_1 182 rfl rfl), Or.inl rfl⟩
theorem fo_RX2_45 : FOK WB RX2 45 8 6 := ⟨RX7, TX7, 11, "RuleForge$Signature", rfl, uw_8, by decide, (wb_1 73 rfl rfl), Or.inl rfl⟩
theorem fo_RX2_50 : FOK WB RX2 50 8 5 := ⟨RX7, TX7, 11, "RuleForge$Signature", rfl, uw_8, by decide, (wb_1 68 rfl rfl), Or.inl rfl⟩
theorem fo_RX17_279 : FOK WB RX17 279 14 0 := ⟨RX13, TX13, 6, "RuleForgeModel$Law", rfl, uw_14, by decide, (wb_10 71 rfl rfl), Or.inl rfl⟩
theorem fo_RX17_253 : FOK WB RX17 253 14 2 := ⟨RX13, TX13, 6, "RuleForgeModel$Law", rfl, uw_14, by decide, (wb_10 73 rfl rfl), Or.inl rfl⟩
theorem fo_RX17_259 : FOK WB RX17 259 16 0 := ⟨RX15, TX15, 1, "RuleForgeModel$Steps", rfl, uw_16, by decide, (wb_8 70 rfl rfl), Or.inl rfl⟩
theorem po_RX17_0_16_0_0 : POK RX17 false 16 0 0 := ⟨RX15, TX15, 1, tyX15, rfl, tyX15_ok, nmX15, rfl, Or.inl rfl⟩
theorem fo_RX17_298 : FOK WB RX17 298 14 1 := ⟨RX13, TX13, 6, "RuleForgeModel$Law", rfl, uw_14, by decide, (wb_10 72 rfl rfl), Or.inl rfl⟩
theorem fo_RX17_102 : FOK WB RX17 102 18 41 := ⟨RX17, TX17, 45, "RuleForgeModel", rfl, uw_18, by decide, (wb_7 144 rfl rfl), Or.inl rfl⟩
theorem fo_RX4_15 : FOK WB RX4 15 5 4 := ⟨RX4, TX4, 16, "RuleForge$Pieces", rfl, uw_5, by decide, (wb_1 223 rfl rfl), Or.inl rfl⟩
theorem fo_RX4_18 : FOK WB RX4 18 5 5 := ⟨RX4, TX4, 16, "RuleForge$Pieces", rfl, uw_5, by decide, (wb_1 224 rfl rfl), Or.inl rfl⟩
theorem fo_RX4_21 : FOK WB RX4 21 5 6 := ⟨RX4, TX4, 16, "RuleForge$Pieces", rfl, uw_5, by decide, (wb_1 226 rfl rfl), Or.inl rfl⟩
theorem fo_RX4_24 : FOK WB RX4 24 5 7 := ⟨RX4, TX4, 16, "RuleForge$Pieces", rfl, uw_5, by decide, (wb_1 227 rfl rfl), Or.inl rfl⟩
theorem fo_RX4_55 : FOK WB RX4 55 5 1 := ⟨RX4, TX4, 16, "RuleForge$Pieces", rfl, uw_5, by decide, (wb_1 219 rfl rfl), Or.inl rfl⟩
theorem fo_RX4_71 : FOK WB RX4 71 8 5 := ⟨RX7, TX7, 11, "RuleForge$Signature", rfl, uw_8, by decide, (wb_1 67 rfl rfl), Or.inl rfl⟩
theorem fo_RX4_39 : FOK WB RX4 39 5 13 := ⟨RX4, TX4, 16, "RuleForge$Pieces", rfl, uw_5, by decide, (wb_1 237 rfl rfl), Or.inl rfl⟩
theorem fo_RX3_20 : FOK WB RX3 20 4 6 := ⟨RX3, TX3, 16, "RuleForge$Matcher", rfl, uw_4, by decide, (wb_2 40 rfl rfl), Or.inl rfl⟩
theorem fo_RX3_23 : FOK WB RX3 23 4 7 := ⟨RX3, TX3, 16, "RuleForge$Matcher", rfl, uw_4, by decide, (wb_2 41 rfl rfl), Or.inl rfl⟩
theorem fo_RX3_48 : FOK WB RX3 48 4 1 := ⟨RX3, TX3, 16, "RuleForge$Matcher", rfl, uw_4, by decide, (wb_2 35 rfl rfl), Or.inl rfl⟩
theorem fo_RX3_169 : FOK WB RX3 169 8 5 := ⟨RX7, TX7, 11, "RuleForge$Signature", rfl, uw_8, by decide, (wb_1 69 rfl rfl), Or.inl rfl⟩
theorem fo_RX3_175 : FOK WB RX3 175 5 5 := ⟨RX4, TX4, 16, "RuleForge$Pieces", rfl, uw_5, by decide, (wb_1 225 rfl rfl), Or.inl rfl⟩
theorem fo_RX17_84 : FOK WB RX17 84 18 32 := ⟨RX17, TX17, 45, "RuleForgeModel", rfl, uw_18, by decide, (wb_7 135 rfl rfl), Or.inl rfl⟩
theorem fo_RX17_87 : FOK WB RX17 87 18 33 := ⟨RX17, TX17, 45, "RuleForgeModel", rfl, uw_18, by decide, (wb_7 136 rfl rfl), Or.inl rfl⟩
theorem fo_RX17_90 : FOK WB RX17 90 18 34 := ⟨RX17, TX17, 45, "RuleForgeModel", rfl, uw_18, by decide, (wb_7 137 rfl rfl), Or.inl rfl⟩
theorem fo_RX17_93 : FOK WB RX17 93 18 35 := ⟨RX17, TX17, 45, "RuleForgeModel", rfl, uw_18, by decide, (wb_7 138 rfl rfl), Or.inl rfl⟩
theorem fo_RX4_100 : FOK WB RX4 100 8 1 := ⟨RX7, TX7, 11, "RuleForge$Signature", rfl, uw_8, by decide, (wb_1 56 rfl rfl), Or.inl rfl⟩
theorem fo_RX4_42 : FOK WB RX4 42 5 14 := ⟨RX4, TX4, 16, "RuleForge$Pieces", rfl, uw_5, by decide, (wb_1 238 rfl rfl), Or.inl rfl⟩
theorem fo_RX4_103 : FOK WB RX4 103 8 6 := ⟨RX7, TX7, 11, "RuleForge$Signature", rfl, uw_8, by decide, (wb_1 74 rfl rfl), Or.inl rfl⟩
theorem fo_RX16_21 : FOK WB RX16 21 17 2 := ⟨RX16, TX16, 6, "RuleForgeModel$Term", rfl, uw_17, by decide, (wb_7 83 rfl rfl), Or.inl rfl⟩
theorem fo_RX3_29 : FOK WB RX3 29 4 9 := ⟨RX3, TX3, 16, "RuleForge$Matcher", rfl, uw_4, by decide, (wb_2 43 rfl rfl), Or.inl rfl⟩
theorem fo_RX17_493 : FOK WB RX17 493 18 4 := ⟨RX17, TX17, 45, "RuleForgeModel", rfl, uw_18, by decide, (wb_7 107 rfl rfl), Or.inl rfl⟩
theorem fo_RX17_114 : FOK WB RX17 114 18 0 := ⟨RX17, TX17, 45, "RuleForgeModel", rfl, uw_18, by decide, (wb_7 103 rfl rfl), Or.inl rfl⟩
theorem po_RX17_0_18_0_0 : POK RX17 false 18 0 0 := ⟨RX17, TX17, 45, tyX17, rfl, tyX17_ok, nmX17, rfl, Or.inl rfl⟩
theorem fo_RX17_44 : FOK WB RX17 44 18 13 := ⟨RX17, TX17, 45, "RuleForgeModel", rfl, uw_18, by decide, (wb_7 116 rfl rfl), Or.inl rfl⟩
theorem fo_RX17_17 : FOK WB RX17 17 18 5 := ⟨RX17, TX17, 45, "RuleForgeModel", rfl, uw_18, by decide, (wb_7 108 rfl rfl), Or.inl rfl⟩
theorem fo_RX3_35 : FOK WB RX3 35 4 11 := ⟨RX3, TX3, 16, "RuleForge$Matcher", rfl, uw_4, by decide, (wb_2 45 rfl rfl), Or.inl rfl⟩
theorem fo_RX17_118 : FOK WB RX17 118 17 1 := ⟨RX16, TX16, 6, "RuleForgeModel$Term", rfl, uw_17, by decide, (wb_7 82 rfl rfl), Or.inl rfl⟩
theorem fo_RX17_20 : FOK WB RX17 20 18 6 := ⟨RX17, TX17, 45, "RuleForgeModel", rfl, uw_18, by decide, (wb_7 109 rfl rfl), Or.inl rfl⟩
theorem fo_RX10_12 : FOK WB RX10 12 11 0 := ⟨RX10, TX10, 10, "RuleForge", rfl, uw_11, by decide, (wb_3 81 rfl rfl), Or.inl rfl⟩
theorem fo_RX10_135 : FOK WB RX10 135 8 4 := ⟨RX7, TX7, 11, "RuleForge$Signature", rfl, uw_8, by decide, (wb_1 64 rfl rfl), Or.inl rfl⟩
theorem fo_RX10_160 : FOK WB RX10 160 11 8 := ⟨RX10, TX10, 10, "RuleForge", rfl, uw_11, by decide, (wb_3 89 rfl rfl), Or.inl rfl⟩
theorem fo_RX10_21 : FOK WB RX10 21 11 1 := ⟨RX10, TX10, 10, "RuleForge", rfl, uw_11, by decide, (wb_3 82 rfl rfl), Or.inl rfl⟩
theorem po_RX10_0_11_8_0 : POK RX10 false 11 8 0 := ⟨RX10, TX10, 10, tyX10, rfl, tyX10_ok, nmX10, rfl, Or.inl rfl⟩
theorem fo_RX7_18 : FOK WB RX7 18 8 4 := ⟨RX7, TX7, 11, "RuleForge$Signature", rfl, uw_8, by decide, (wb_1 63 rfl rfl), Or.inl rfl⟩
theorem fo_RX7_27 : FOK WB RX7 27 8 7 := ⟨RX7, TX7, 11, "RuleForge$Signature", rfl, uw_8, by decide, (wb_1 76 rfl rfl), Or.inl rfl⟩
theorem fo_RX17_7 : FOK WB RX17 7 18 2 := ⟨RX17, TX17, 45, "RuleForgeModel", rfl, uw_18, by decide, (wb_7 105 rfl rfl), Or.inl rfl⟩
theorem po_RX17_1_18_2_2 : POK RX17 true 18 2 2 := ⟨RX17, TX17, 45, tyX17, rfl, tyX17_ok, nmX17, rfl, Or.inr ⟨rfl, rfl, rfl⟩⟩
theorem fo_RX17_13 : FOK WB RX17 13 18 3 := ⟨RX17, TX17, 45, "RuleForgeModel", rfl, uw_18, by decide, (wb_7 106 rfl rfl), Or.inl rfl⟩
theorem po_RX17_1_18_3_2 : POK RX17 true 18 3 2 := ⟨RX17, TX17, 45, tyX17, rfl, tyX17_ok, nmX17, rfl, Or.inr ⟨rfl, rfl, rfl⟩⟩
theorem po_RX17_1_18_5_2 : POK RX17 true 18 5 2 := ⟨RX17, TX17, 45, tyX17, rfl, tyX17_ok, nmX17, rfl, Or.inr ⟨rfl, rfl, rfl⟩⟩
theorem po_RX17_1_18_6_2 : POK RX17 true 18 6 2 := ⟨RX17, TX17, 45, tyX17, rfl, tyX17_ok, nmX17, rfl, Or.inr ⟨rfl, rfl, rfl⟩⟩
theorem fo_RX17_23 : FOK WB RX17 23 18 7 := ⟨RX17, TX17, 45, "RuleForgeModel", rfl, uw_18, by decide, (wb_7 110 rfl rfl), Or.inl rfl⟩
theorem po_RX17_1_18_7_2 : POK RX17 true 18 7 2 := ⟨RX17, TX17, 45, tyX17, rfl, tyX17_ok, nmX17, rfl, Or.inr ⟨rfl, rfl, rfl⟩⟩
theorem fo_RX17_26 : FOK WB RX17 26 18 8 := ⟨RX17, TX17, 45, "RuleForgeModel", rfl, uw_18, by decide, (wb_7 111 rfl rfl), Or.inl rfl⟩
theorem po_RX17_1_18_8_2 : POK RX17 true 18 8 2 := ⟨RX17, TX17, 45, tyX17, rfl, tyX17_ok, nmX17, rfl, Or.inr ⟨rfl, rfl, rfl⟩⟩
theorem fo_RX17_29 : FOK WB RX17 29 18 9 := ⟨RX17, TX17, 45, "RuleForgeModel", rfl, uw_18, by decide, (wb_7 112 rfl rfl), Or.inl rfl⟩
theorem po_RX17_1_18_9_2 : POK RX17 true 18 9 2 := ⟨RX17, TX17, 45, tyX17, rfl, tyX17_ok, nmX17, rfl, Or.inr ⟨rfl, rfl, rfl⟩⟩
theorem fo_RX17_32 : FOK WB RX17 32 18 10 := ⟨RX17, TX17, 45, "RuleForgeModel", rfl, uw_18, by decide, (wb_7 113 rfl rfl), Or.inl rfl⟩
theorem po_RX17_1_18_10_2 : POK RX17 true 18 10 2 := ⟨RX17, TX17, 45, tyX17, rfl, tyX17_ok, nmX17, rfl, Or.inr ⟨rfl, rfl, rfl⟩⟩
theorem fo_RX17_35 : FOK WB RX17 35 18 11 := ⟨RX17, TX17, 45, "RuleForgeModel", rfl, uw_18, by decide, (wb_7 114 rfl rfl), Or.inl rfl⟩
theorem po_RX17_1_18_11_2 : POK RX17 true 18 11 2 := ⟨RX17, TX17, 45, tyX17, rfl, tyX17_ok, nmX17, rfl, Or.inr ⟨rfl, rfl, rfl⟩⟩
theorem fo_RX17_38 : FOK WB RX17 38 18 12 := ⟨RX17, TX17, 45, "RuleForgeModel", rfl, uw_18, by decide, (wb_7 115 rfl rfl), Or.inl rfl⟩
theorem po_RX17_1_18_12_2 : POK RX17 true 18 12 2 := ⟨RX17, TX17, 45, tyX17, rfl, tyX17_ok, nmX17, rfl, Or.inr ⟨rfl, rfl, rfl⟩⟩
theorem no_RX17_41 : NOK WB RX17 41 0 [0, 2, 0] := ⟨RJx4a65c, TJx4a65c, 3, tyJx4a65c, rfl, uw_0, tyJx4a65c_ok, (wb_7 46 rfl rfl), (wb_7 47 rfl rfl), (wb_1 16 rfl rfl), rfl, nok_fk rfl⟩
theorem po_RX17_1_18_13_2 : POK RX17 true 18 13 2 := ⟨RX17, TX17, 45, tyX17, rfl, tyX17_ok, nmX17, rfl, Or.inr ⟨rfl, rfl, rfl⟩⟩
theorem fo_RX17_50 : FOK WB RX17 50 18 14 := ⟨RX17, TX17, 45, "RuleForgeModel", rfl, uw_18, by decide, (wb_7 117 rfl rfl), Or.inl rfl⟩
theorem po_RX17_1_18_14_2 : POK RX17 true 18 14 2 := ⟨RX17, TX17, 45, tyX17, rfl, tyX17_ok, nmX17, rfl, Or.inr ⟨rfl, rfl, rfl⟩⟩
theorem po_RX17_1_18_15_2 : POK RX17 true 18 15 2 := ⟨RX17, TX17, 45, tyX17, rfl, tyX17_ok, nmX17, rfl, Or.inr ⟨rfl, rfl, rfl⟩⟩
theorem fo_RX17_57 : FOK WB RX17 57 18 16 := ⟨RX17, TX17, 45, "RuleForgeModel", rfl, uw_18, by decide, (wb_7 119 rfl rfl), Or.inl rfl⟩
theorem po_RX17_1_18_16_2 : POK RX17 true 18 16 2 := ⟨RX17, TX17, 45, tyX17, rfl, tyX17_ok, nmX17, rfl, Or.inr ⟨rfl, rfl, rfl⟩⟩
theorem fo_RX17_60 : FOK WB RX17 60 18 17 := ⟨RX17, TX17, 45, "RuleForgeModel", rfl, uw_18, by decide, (wb_7 120 rfl rfl), Or.inl rfl⟩
theorem po_RX17_1_18_17_2 : POK RX17 true 18 17 2 := ⟨RX17, TX17, 45, tyX17, rfl, tyX17_ok, nmX17, rfl, Or.inr ⟨rfl, rfl, rfl⟩⟩
theorem fo_RX17_63 : FOK WB RX17 63 18 20 := ⟨RX17, TX17, 45, "RuleForgeModel", rfl, uw_18, by decide, (wb_7 123 rfl rfl), Or.inl rfl⟩
theorem po_RX17_1_18_20_2 : POK RX17 true 18 20 2 := ⟨RX17, TX17, 45, tyX17, rfl, tyX17_ok, nmX17, rfl, Or.inr ⟨rfl, rfl, rfl⟩⟩
theorem fo_RX17_66 : FOK WB RX17 66 18 21 := ⟨RX17, TX17, 45, "RuleForgeModel", rfl, uw_18, by decide, (wb_7 124 rfl rfl), Or.inl rfl⟩
theorem po_RX17_1_18_21_2 : POK RX17 true 18 21 2 := ⟨RX17, TX17, 45, tyX17, rfl, tyX17_ok, nmX17, rfl, Or.inr ⟨rfl, rfl, rfl⟩⟩
theorem fo_RX17_69 : FOK WB RX17 69 18 22 := ⟨RX17, TX17, 45, "RuleForgeModel", rfl, uw_18, by decide, (wb_7 125 rfl rfl), Or.inl rfl⟩
theorem po_RX17_1_18_22_2 : POK RX17 true 18 22 2 := ⟨RX17, TX17, 45, tyX17, rfl, tyX17_ok, nmX17, rfl, Or.inr ⟨rfl, rfl, rfl⟩⟩
theorem fo_RX17_72 : FOK WB RX17 72 18 28 := ⟨RX17, TX17, 45, "RuleForgeModel", rfl, uw_18, by decide, (wb_7 131 rfl rfl), Or.inl rfl⟩
theorem po_RX17_1_18_28_2 : POK RX17 true 18 28 2 := ⟨RX17, TX17, 45, tyX17, rfl, tyX17_ok, nmX17, rfl, Or.inr ⟨rfl, rfl, rfl⟩⟩
theorem fo_RX17_75 : FOK WB RX17 75 18 29 := ⟨RX17, TX17, 45, "RuleForgeModel", rfl, uw_18, by decide, (wb_7 132 rfl rfl), Or.inl rfl⟩
theorem po_RX17_1_18_29_2 : POK RX17 true 18 29 2 := ⟨RX17, TX17, 45, tyX17, rfl, tyX17_ok, nmX17, rfl, Or.inr ⟨rfl, rfl, rfl⟩⟩
theorem fo_RX17_78 : FOK WB RX17 78 18 30 := ⟨RX17, TX17, 45, "RuleForgeModel", rfl, uw_18, by decide, (wb_7 133 rfl rfl), Or.inl rfl⟩
theorem po_RX17_1_18_30_2 : POK RX17 true 18 30 2 := ⟨RX17, TX17, 45, tyX17, rfl, tyX17_ok, nmX17, rfl, Or.inr ⟨rfl, rfl, rfl⟩⟩
theorem fo_RX17_81 : FOK WB RX17 81 18 31 := ⟨RX17, TX17, 45, "RuleForgeModel", rfl, uw_18, by decide, (wb_7 134 rfl rfl), Or.inl rfl⟩
theorem po_RX17_1_18_31_2 : POK RX17 true 18 31 2 := ⟨RX17, TX17, 45, tyX17, rfl, tyX17_ok, nmX17, rfl, Or.inr ⟨rfl, rfl, rfl⟩⟩
theorem po_RX17_1_18_32_2 : POK RX17 true 18 32 2 := ⟨RX17, TX17, 45, tyX17, rfl, tyX17_ok, nmX17, rfl, Or.inr ⟨rfl, rfl, rfl⟩⟩
theorem po_RX17_1_18_33_2 : POK RX17 true 18 33 2 := ⟨RX17, TX17, 45, tyX17, rfl, tyX17_ok, nmX17, rfl, Or.inr ⟨rfl, rfl, rfl⟩⟩
theorem po_RX17_1_18_34_2 : POK RX17 true 18 34 2 := ⟨RX17, TX17, 45, tyX17, rfl, tyX17_ok, nmX17, rfl, Or.inr ⟨rfl, rfl, rfl⟩⟩
theorem po_RX17_1_18_35_2 : POK RX17 true 18 35 2 := ⟨RX17, TX17, 45, tyX17, rfl, tyX17_ok, nmX17, rfl, Or.inr ⟨rfl, rfl, rfl⟩⟩
theorem fo_RX17_96 : FOK WB RX17 96 18 36 := ⟨RX17, TX17, 45, "RuleForgeModel", rfl, uw_18, by decide, (wb_7 139 rfl rfl), Or.inl rfl⟩
theorem po_RX17_1_18_36_2 : POK RX17 true 18 36 2 := ⟨RX17, TX17, 45, tyX17, rfl, tyX17_ok, nmX17, rfl, Or.inr ⟨rfl, rfl, rfl⟩⟩
theorem fo_RX17_99 : FOK WB RX17 99 18 37 := ⟨RX17, TX17, 45, "RuleForgeModel", rfl, uw_18, by decide, (wb_7 140 rfl rfl), Or.inl rfl⟩
theorem po_RX17_1_18_37_2 : POK RX17 true 18 37 2 := ⟨RX17, TX17, 45, tyX17, rfl, tyX17_ok, nmX17, rfl, Or.inr ⟨rfl, rfl, rfl⟩⟩
theorem po_RX17_1_18_41_2 : POK RX17 true 18 41 2 := ⟨RX17, TX17, 45, tyX17, rfl, tyX17_ok, nmX17, rfl, Or.inl rfl⟩
theorem fo_RX17_105 : FOK WB RX17 105 18 42 := ⟨RX17, TX17, 45, "RuleForgeModel", rfl, uw_18, by decide, (wb_7 145 rfl rfl), Or.inl rfl⟩
theorem po_RX17_1_18_42_2 : POK RX17 true 18 42 2 := ⟨RX17, TX17, 45, tyX17, rfl, tyX17_ok, nmX17, rfl, Or.inr ⟨rfl, rfl, rfl⟩⟩
theorem fo_RX17_108 : FOK WB RX17 108 18 44 := ⟨RX17, TX17, 45, "RuleForgeModel", rfl, uw_18, by decide, (wb_7 147 rfl rfl), Or.inl rfl⟩
theorem po_RX17_1_18_44_2 : POK RX17 true 18 44 2 := ⟨RX17, TX17, 45, tyX17, rfl, tyX17_ok, nmX17, rfl, Or.inr ⟨rfl, rfl, rfl⟩⟩
theorem no_RX17_48 : NOK WB RX17 48 17 [0, 0, 2, 0, 0, 2] := ⟨RX16, TX16, 6, tyX16, rfl, uw_17, tyX16_ok, (wb_7 72 rfl rfl), (wb_7 74 rfl rfl), (wb_1 17 rfl rfl), rfl, nok_fk rfl⟩
theorem fo_RX17_132 : FOK WB RX17 132 17 3 := ⟨RX16, TX16, 6, "RuleForgeModel$Term", rfl, uw_17, by decide, (wb_7 86 rfl rfl), Or.inl rfl⟩
theorem fo_RX6_125 : FOK WB RX6 125 3 4 := ⟨RX2, TX2, 5, "RuleForge$Laws", rfl, uw_3, by decide, (wb_1 192 rfl rfl), Or.inl rfl⟩
theorem fo_RJx4a65c_63 : FOK WB RJx4a65c 63 0 0 := ⟨RJx4a65c, TJx4a65c, 3, "java/util/ArrayList", rfl, uw_0, by decide, (wb_7 63 rfl rfl), Or.inr (wb_7 64 rfl rfl)⟩
theorem po_RJx4a65c_0_0_0_0 : POK RJx4a65c false 0 0 0 := ⟨RJx4a65c, TJx4a65c, 3, tyJx4a65c, rfl, tyJx4a65c_ok, nmJx4a65c, rfl, Or.inl rfl⟩
theorem po_RJx4a65c_0_0_2_0 : POK RJx4a65c false 0 2 0 := ⟨RJx4a65c, TJx4a65c, 3, tyJx4a65c, rfl, tyJx4a65c_ok, nmJx4a65c, rfl, Or.inl rfl⟩
theorem fo_RX8_28 : FOK WB RX8 28 9 7 := ⟨RX8, TX8, 11, "RuleForge$Terms", rfl, uw_9, by decide, (wb_1 139 rfl rfl), Or.inl rfl⟩
theorem fo_RX16_9 : FOK WB RX16 9 17 4 := ⟨RX16, TX16, 6, "RuleForgeModel$Term", rfl, uw_17, by decide, (wb_7 87 rfl rfl), Or.inl rfl⟩
theorem po_RX16_1_17_4_0 : POK RX16 true 17 4 0 := ⟨RX16, TX16, 6, tyX16, rfl, tyX16_ok, nmX16, rfl, Or.inl rfl⟩
theorem po_RX16_1_17_0_0 : POK RX16 true 17 0 0 := ⟨RX16, TX16, 6, tyX16, rfl, tyX16_ok, nmX16, rfl, Or.inr ⟨rfl, rfl, rfl⟩⟩
theorem fo_RX16_18 : FOK WB RX16 18 17 1 := ⟨RX16, TX16, 6, "RuleForgeModel$Term", rfl, uw_17, by decide, (wb_7 81 rfl rfl), Or.inl rfl⟩
theorem po_RX16_1_17_1_0 : POK RX16 true 17 1 0 := ⟨RX16, TX16, 6, tyX16, rfl, tyX16_ok, nmX16, rfl, Or.inr ⟨rfl, rfl, rfl⟩⟩
theorem po_RX16_1_17_2_2 : POK RX16 true 17 2 2 := ⟨RX16, TX16, 6, tyX16, rfl, tyX16_ok, nmX16, rfl, Or.inr ⟨rfl, rfl, rfl⟩⟩
theorem fo_RX16_25 : FOK WB RX16 25 17 3 := ⟨RX16, TX16, 6, "RuleForgeModel$Term", rfl, uw_17, by decide, (wb_7 85 rfl rfl), Or.inl rfl⟩
theorem po_RX16_1_17_3_0 : POK RX16 true 17 3 0 := ⟨RX16, TX16, 6, tyX16, rfl, tyX16_ok, nmX16, rfl, Or.inr ⟨rfl, rfl, rfl⟩⟩
theorem fo_RJx4a65c_9 : FOK WB RJx4a65c 9 0 1 := ⟨RJx4a65c, TJx4a65c, 3, "java/util/ArrayList", rfl, uw_0, by decide, (wb_7 60 rfl rfl), Or.inl rfl⟩
theorem po_RX8_0_9_8_0 : POK RX8 false 9 8 0 := ⟨RX8, TX8, 11, tyX8, rfl, tyX8_ok, nmX8, rfl, Or.inl rfl⟩
theorem po_RX8_0_9_10_1 : POK RX8 false 9 10 1 := ⟨RX8, TX8, 11, tyX8, rfl, tyX8_ok, nmX8, rfl, Or.inl rfl⟩
theorem po_RX17_0_18_4_0 : POK RX17 false 18 4 0 := ⟨RX17, TX17, 45, tyX17, rfl, tyX17_ok, nmX17, rfl, Or.inl rfl⟩
theorem po_RX8_1_9_1_2 : POK RX8 true 9 1 2 := ⟨RX8, TX8, 11, tyX8, rfl, tyX8_ok, nmX8, rfl, Or.inr ⟨rfl, rfl, rfl⟩⟩
theorem po_RX8_1_9_2_0 : POK RX8 true 9 2 0 := ⟨RX8, TX8, 11, tyX8, rfl, tyX8_ok, nmX8, rfl, Or.inl rfl⟩
theorem po_RX8_1_9_3_2 : POK RX8 true 9 3 2 := ⟨RX8, TX8, 11, tyX8, rfl, tyX8_ok, nmX8, rfl, Or.inr ⟨rfl, rfl, rfl⟩⟩
theorem po_RX8_1_9_5_2 : POK RX8 true 9 5 2 := ⟨RX8, TX8, 11, tyX8, rfl, tyX8_ok, nmX8, rfl, Or.inr ⟨rfl, rfl, rfl⟩⟩
theorem po_RX8_1_9_6_2 : POK RX8 true 9 6 2 := ⟨RX8, TX8, 11, tyX8, rfl, tyX8_ok, nmX8, rfl, Or.inr ⟨rfl, rfl, rfl⟩⟩
theorem po_RX8_1_9_7_2 : POK RX8 true 9 7 2 := ⟨RX8, TX8, 11, tyX8, rfl, tyX8_ok, nmX8, rfl, Or.inr ⟨rfl, rfl, rfl⟩⟩
theorem po_RX8_1_9_8_0 : POK RX8 true 9 8 0 := ⟨RX8, TX8, 11, tyX8, rfl, tyX8_ok, nmX8, rfl, Or.inl rfl⟩
theorem fo_RX8_34 : FOK WB RX8 34 9 9 := ⟨RX8, TX8, 11, "RuleForge$Terms", rfl, uw_9, by decide, (wb_1 146 rfl rfl), Or.inl rfl⟩
theorem po_RX8_1_9_9_0 : POK RX8 true 9 9 0 := ⟨RX8, TX8, 11, tyX8, rfl, tyX8_ok, nmX8, rfl, Or.inl rfl⟩
theorem po_RX8_1_9_0_2 : POK RX8 true 9 0 2 := ⟨RX8, TX8, 11, tyX8, rfl, tyX8_ok, nmX8, rfl, Or.inr ⟨rfl, rfl, rfl⟩⟩
theorem fo_RX7_49 : FOK WB RX7 49 8 1 := ⟨RX7, TX7, 11, "RuleForge$Signature", rfl, uw_8, by decide, (wb_1 54 rfl rfl), Or.inl rfl⟩
theorem fo_RX7_9 : FOK WB RX7 9 8 2 := ⟨RX7, TX7, 11, "RuleForge$Signature", rfl, uw_8, by decide, (wb_1 57 rfl rfl), Or.inl rfl⟩
theorem po_RX7_1_8_2_2 : POK RX7 true 8 2 2 := ⟨RX7, TX7, 11, tyX7, rfl, tyX7_ok, nmX7, rfl, Or.inr ⟨rfl, rfl, rfl⟩⟩
theorem fo_RX7_15 : FOK WB RX7 15 8 3 := ⟨RX7, TX7, 11, "RuleForge$Signature", rfl, uw_8, by decide, (wb_1 58 rfl rfl), Or.inl rfl⟩
theorem po_RX7_1_8_3_2 : POK RX7 true 8 3 2 := ⟨RX7, TX7, 11, tyX7, rfl, tyX7_ok, nmX7, rfl, Or.inr ⟨rfl, rfl, rfl⟩⟩
theorem po_RX7_1_8_4_2 : POK RX7 true 8 4 2 := ⟨RX7, TX7, 11, tyX7, rfl, tyX7_ok, nmX7, rfl, Or.inr ⟨rfl, rfl, rfl⟩⟩
theorem fo_RX7_21 : FOK WB RX7 21 8 5 := ⟨RX7, TX7, 11, "RuleForge$Signature", rfl, uw_8, by decide, (wb_1 65 rfl rfl), Or.inl rfl⟩
theorem po_RX7_1_8_5_2 : POK RX7 true 8 5 2 := ⟨RX7, TX7, 11, tyX7, rfl, tyX7_ok, nmX7, rfl, Or.inr ⟨rfl, rfl, rfl⟩⟩
theorem fo_RX7_24 : FOK WB RX7 24 8 6 := ⟨RX7, TX7, 11, "RuleForge$Signature", rfl, uw_8, by decide, (wb_1 72 rfl rfl), Or.inl rfl⟩
theorem po_RX7_1_8_6_2 : POK RX7 true 8 6 2 := ⟨RX7, TX7, 11, tyX7, rfl, tyX7_ok, nmX7, rfl, Or.inr ⟨rfl, rfl, rfl⟩⟩
theorem po_RX7_1_8_7_2 : POK RX7 true 8 7 2 := ⟨RX7, TX7, 11, tyX7, rfl, tyX7_ok, nmX7, rfl, Or.inr ⟨rfl, rfl, rfl⟩⟩
theorem fo_RX7_30 : FOK WB RX7 30 8 8 := ⟨RX7, TX7, 11, "RuleForge$Signature", rfl, uw_8, by decide, (wb_1 78 rfl rfl), Or.inl rfl⟩
theorem po_RX7_1_8_8_2 : POK RX7 true 8 8 2 := ⟨RX7, TX7, 11, tyX7, rfl, tyX7_ok, nmX7, rfl, Or.inr ⟨rfl, rfl, rfl⟩⟩
theorem fo_RX7_33 : FOK WB RX7 33 8 9 := ⟨RX7, TX7, 11, "RuleForge$Signature", rfl, uw_8, by decide, (wb_1 79 rfl rfl), Or.inl rfl⟩
theorem po_RX7_1_8_9_2 : POK RX7 true 8 9 2 := ⟨RX7, TX7, 11, tyX7, rfl, tyX7_ok, nmX7, rfl, Or.inr ⟨rfl, rfl, rfl⟩⟩
theorem fo_RX7_36 : FOK WB RX7 36 8 10 := ⟨RX7, TX7, 11, "RuleForge$Signature", rfl, uw_8, by decide, (wb_1 82 rfl rfl), Or.inl rfl⟩
theorem po_RX7_1_8_10_2 : POK RX7 true 8 10 2 := ⟨RX7, TX7, 11, tyX7, rfl, tyX7_ok, nmX7, rfl, Or.inr ⟨rfl, rfl, rfl⟩⟩
theorem fo_RX10_30 : FOK WB RX10 30 11 2 := ⟨RX10, TX10, 10, "RuleForge", rfl, uw_11, by decide, (wb_3 83 rfl rfl), Or.inl rfl⟩
theorem fo_RX10_262 : FOK WB RX10 262 3 2 := ⟨RX2, TX2, 5, "RuleForge$Laws", rfl, uw_3, by decide, (wb_1 186 rfl rfl), Or.inl rfl⟩
theorem no_RX17_254 : NOK WB RX17 254 14 [2, 2, 2, 2, 2, 2] := ⟨RX13, TX13, 6, tyX13, rfl, uw_14, tyX13_ok, (wb_8 158 rfl rfl), (wb_10 66 rfl rfl), (wb_1 31 rfl rfl), rfl, nok_fk rfl⟩
theorem po_RX17_0_14_0_2 : POK RX17 false 14 0 2 := ⟨RX13, TX13, 6, tyX13, rfl, tyX13_ok, nmX13, rfl, Or.inl rfl⟩
theorem po_RX17_0_14_1_2 : POK RX17 false 14 1 2 := ⟨RX13, TX13, 6, tyX13, rfl, tyX13_ok, nmX13, rfl, Or.inl rfl⟩
theorem po_RX17_0_14_2_2 : POK RX17 false 14 2 2 := ⟨RX13, TX13, 6, tyX13, rfl, tyX13_ok, nmX13, rfl, Or.inl rfl⟩
theorem fo_RX17_268 : FOK WB RX17 268 14 3 := ⟨RX13, TX13, 6, "RuleForgeModel$Law", rfl, uw_14, by decide, (wb_10 74 rfl rfl), Or.inl rfl⟩
theorem po_RX17_0_14_3_2 : POK RX17 false 14 3 2 := ⟨RX13, TX13, 6, tyX13, rfl, tyX13_ok, nmX13, rfl, Or.inl rfl⟩
theorem po_RX17_0_18_25_1 : POK RX17 false 18 25 1 := ⟨RX17, TX17, 45, tyX17, rfl, tyX17_ok, nmX17, rfl, Or.inl rfl⟩
theorem no_RX10_9 : NOK WB RX10 9 8 [0, 0, 2, 2, 2, 2, 2, 2, 2, 2, 2] := ⟨RX7, TX7, 11, tyX7, rfl, uw_8, tyX7_ok, (wb_1 43 rfl rfl), (wb_1 44 rfl rfl), (wb_1 2 rfl rfl), rfl, nok_fk rfl⟩
theorem po_RX10_1_11_0_2 : POK RX10 true 11 0 2 := ⟨RX10, TX10, 10, tyX10, rfl, tyX10_ok, nmX10, rfl, Or.inr ⟨rfl, rfl, rfl⟩⟩
theorem no_RX10_16 : NOK WB RX10 16 9 [2, 2, 0, 2, 0, 2, 2, 2, 0, 0, 1] := ⟨RX8, TX8, 11, tyX8, rfl, uw_9, tyX8_ok, (wb_1 109 rfl rfl), (wb_1 110 rfl rfl), (wb_1 4 rfl rfl), rfl, nok_fk rfl⟩
theorem po_RX10_1_11_1_2 : POK RX10 true 11 1 2 := ⟨RX10, TX10, 10, tyX10, rfl, tyX10_ok, nmX10, rfl, Or.inr ⟨rfl, rfl, rfl⟩⟩
theorem no_RX10_25 : NOK WB RX10 25 3 [2, 2, 0, 0, 2] := ⟨RX2, TX2, 5, tyX2, rfl, uw_3, tyX2_ok, (wb_1 174 rfl rfl), (wb_1 175 rfl rfl), (wb_1 5 rfl rfl), rfl, nok_fk rfl⟩
theorem po_RX10_1_11_2_2 : POK RX10 true 11 2 2 := ⟨RX10, TX10, 10, tyX10, rfl, tyX10_ok, nmX10, rfl, Or.inr ⟨rfl, rfl, rfl⟩⟩
theorem no_RX10_34 : NOK WB RX10 34 4 [2, 2, 2, 2, 2, 0, 2, 2, 2, 2, 2, 2, 0, 0, 0, 0] := ⟨RX3, TX3, 16, tyX3, rfl, uw_4, tyX3_ok, (wb_1 206 rfl rfl), (wb_1 207 rfl rfl), (wb_1 6 rfl rfl), rfl, nok_fk rfl⟩
theorem fo_RX10_37 : FOK WB RX10 37 11 3 := ⟨RX10, TX10, 10, "RuleForge", rfl, uw_11, by decide, (wb_3 84 rfl rfl), Or.inl rfl⟩
theorem po_RX10_1_11_3_2 : POK RX10 true 11 3 2 := ⟨RX10, TX10, 10, tyX10, rfl, tyX10_ok, nmX10, rfl, Or.inr ⟨rfl, rfl, rfl⟩⟩
theorem no_RX10_41 : NOK WB RX10 41 7 [2, 2, 2, 0, 0, 2, 2, 2, 2, 2] := ⟨RX6, TX6, 10, tyX6, rfl, uw_7, tyX6_ok, (wb_2 89 rfl rfl), (wb_2 90 rfl rfl), (wb_1 8 rfl rfl), rfl, nok_fk rfl⟩
theorem fo_RX10_46 : FOK WB RX10 46 11 4 := ⟨RX10, TX10, 10, "RuleForge", rfl, uw_11, by decide, (wb_3 85 rfl rfl), Or.inl rfl⟩
theorem po_RX10_1_11_4_2 : POK RX10 true 11 4 2 := ⟨RX10, TX10, 10, tyX10, rfl, tyX10_ok, nmX10, rfl, Or.inr ⟨rfl, rfl, rfl⟩⟩
theorem no_RX10_50 : NOK WB RX10 50 10 [2, 2, 2, 2, 0, 0, 0, 0, 0, 0, 0, 0, 0, 0, 0] := ⟨RX9, TX9, 15, tyX9, rfl, uw_10, tyX9_ok, (wb_2 135 rfl rfl), (wb_2 136 rfl rfl), (wb_1 9 rfl rfl), rfl, nok_fk rfl⟩
theorem no_RX10_55 : NOK WB RX10 55 2 [2, 2, 0, 1, 2, 2, 2, 0, 0] := ⟨RX1, TX1, 9, tyX1, rfl, uw_2, tyX1_ok, (wb_2 195 rfl rfl), (wb_2 196 rfl rfl), (wb_1 10 rfl rfl), rfl, nok_fk rfl⟩
theorem fo_RX10_60 : FOK WB RX10 60 11 5 := ⟨RX10, TX10, 10, "RuleForge", rfl, uw_11, by decide, (wb_3 86 rfl rfl), Or.inl rfl⟩
theorem po_RX10_1_11_5_2 : POK RX10 true 11 5 2 := ⟨RX10, TX10, 10, tyX10, rfl, tyX10_ok, nmX10, rfl, Or.inr ⟨rfl, rfl, rfl⟩⟩
theorem no_RX10_64 : NOK WB RX10 64 6 [2, 2, 0, 0, 2, 2, 2, 0, 0] := ⟨RX5, TX5, 9, tyX5, rfl, uw_6, tyX5_ok, (wb_2 233 rfl rfl), (wb_2 234 rfl rfl), (wb_1 11 rfl rfl), rfl, nok_fk rfl⟩
theorem fo_RX10_67 : FOK WB RX10 67 11 6 := ⟨RX10, TX10, 10, "RuleForge", rfl, uw_11, by decide, (wb_3 87 rfl rfl), Or.inl rfl⟩
theorem po_RX10_1_11_6_2 : POK RX10 true 11 6 2 := ⟨RX10, TX10, 10, tyX10, rfl, tyX10_ok, nmX10, rfl, Or.inr ⟨rfl, rfl, rfl⟩⟩
theorem no_RX10_71 : NOK WB RX10 71 1 [2, 2, 2, 2, 0, 2, 2, 2, 0, 2, 0, 0, 0, 2] := ⟨RX0, TX0, 14, tyX0, rfl, uw_1, tyX0_ok, (wb_3 29 rfl rfl), (wb_3 30 rfl rfl), (wb_1 12 rfl rfl), rfl, nok_fk rfl⟩
theorem fo_RX10_74 : FOK WB RX10 74 11 7 := ⟨RX10, TX10, 10, "RuleForge", rfl, uw_11, by decide, (wb_3 88 rfl rfl), Or.inl rfl⟩
theorem po_RX10_1_11_7_2 : POK RX10 true 11 7 2 := ⟨RX10, TX10, 10, tyX10, rfl, tyX10_ok, nmX10, rfl, Or.inr ⟨rfl, rfl, rfl⟩⟩
theorem po_RX7_0_8_1_0 : POK RX7 false 8 1 0 := ⟨RX7, TX7, 11, tyX7, rfl, tyX7_ok, nmX7, rfl, Or.inl rfl⟩
theorem fo_RX10_140 : FOK WB RX10 140 8 1 := ⟨RX7, TX7, 11, "RuleForge$Signature", rfl, uw_8, by decide, (wb_1 55 rfl rfl), Or.inl rfl⟩
theorem po_RX4_1_5_3_2 : POK RX4 true 5 3 2 := ⟨RX4, TX4, 16, tyX4, rfl, tyX4_ok, nmX4, rfl, Or.inr ⟨rfl, rfl, rfl⟩⟩
theorem po_RX4_1_5_4_2 : POK RX4 true 5 4 2 := ⟨RX4, TX4, 16, tyX4, rfl, tyX4_ok, nmX4, rfl, Or.inr ⟨rfl, rfl, rfl⟩⟩
theorem po_RX4_1_5_5_2 : POK RX4 true 5 5 2 := ⟨RX4, TX4, 16, tyX4, rfl, tyX4_ok, nmX4, rfl, Or.inr ⟨rfl, rfl, rfl⟩⟩
theorem po_RX4_1_5_6_2 : POK RX4 true 5 6 2 := ⟨RX4, TX4, 16, tyX4, rfl, tyX4_ok, nmX4, rfl, Or.inr ⟨rfl, rfl, rfl⟩⟩
theorem po_RX4_1_5_7_2 : POK RX4 true 5 7 2 := ⟨RX4, TX4, 16, tyX4, rfl, tyX4_ok, nmX4, rfl, Or.inr ⟨rfl, rfl, rfl⟩⟩
theorem po_RX4_1_5_8_2 : POK RX4 true 5 8 2 := ⟨RX4, TX4, 16, tyX4, rfl, tyX4_ok, nmX4, rfl, Or.inr ⟨rfl, rfl, rfl⟩⟩
theorem po_RX4_1_5_10_2 : POK RX4 true 5 10 2 := ⟨RX4, TX4, 16, tyX4, rfl, tyX4_ok, nmX4, rfl, Or.inr ⟨rfl, rfl, rfl⟩⟩
theorem po_RX4_1_5_11_2 : POK RX4 true 5 11 2 := ⟨RX4, TX4, 16, tyX4, rfl, tyX4_ok, nmX4, rfl, Or.inr ⟨rfl, rfl, rfl⟩⟩
theorem fo_RX4_36 : FOK WB RX4 36 5 12 := ⟨RX4, TX4, 16, "RuleForge$Pieces", rfl, uw_5, by decide, (wb_1 236 rfl rfl), Or.inl rfl⟩
theorem po_RX4_1_5_12_2 : POK RX4 true 5 12 2 := ⟨RX4, TX4, 16, tyX4, rfl, tyX4_ok, nmX4, rfl, Or.inr ⟨rfl, rfl, rfl⟩⟩
theorem po_RX4_1_5_13_2 : POK RX4 true 5 13 2 := ⟨RX4, TX4, 16, tyX4, rfl, tyX4_ok, nmX4, rfl, Or.inr ⟨rfl, rfl, rfl⟩⟩
theorem po_RX4_1_5_14_2 : POK RX4 true 5 14 2 := ⟨RX4, TX4, 16, tyX4, rfl, tyX4_ok, nmX4, rfl, Or.inr ⟨rfl, rfl, rfl⟩⟩
theorem po_RX4_1_5_0_2 : POK RX4 true 5 0 2 := ⟨RX4, TX4, 16, tyX4, rfl, tyX4_ok, nmX4, rfl, Or.inr ⟨rfl, rfl, rfl⟩⟩
theorem fo_RX4_49 : FOK WB RX4 49 9 0 := ⟨RX8, TX8, 11, "RuleForge$Terms", rfl, uw_9, by decide, (wb_1 119 rfl rfl), Or.inl rfl⟩
theorem po_RX4_1_5_1_2 : POK RX4 true 5 1 2 := ⟨RX4, TX4, 16, tyX4, rfl, tyX4_ok, nmX4, rfl, Or.inr ⟨rfl, rfl, rfl⟩⟩
theorem po_RX3_1_4_3_2 : POK RX3 true 4 3 2 := ⟨RX3, TX3, 16, tyX3, rfl, tyX3_ok, nmX3, rfl, Or.inr ⟨rfl, rfl, rfl⟩⟩
theorem po_RX3_1_4_4_2 : POK RX3 true 4 4 2 := ⟨RX3, TX3, 16, tyX3, rfl, tyX3_ok, nmX3, rfl, Or.inr ⟨rfl, rfl, rfl⟩⟩
theorem po_RX3_1_4_6_2 : POK RX3 true 4 6 2 := ⟨RX3, TX3, 16, tyX3, rfl, tyX3_ok, nmX3, rfl, Or.inr ⟨rfl, rfl, rfl⟩⟩
theorem po_RX3_1_4_7_2 : POK RX3 true 4 7 2 := ⟨RX3, TX3, 16, tyX3, rfl, tyX3_ok, nmX3, rfl, Or.inr ⟨rfl, rfl, rfl⟩⟩
theorem fo_RX3_26 : FOK WB RX3 26 4 8 := ⟨RX3, TX3, 16, "RuleForge$Matcher", rfl, uw_4, by decide, (wb_2 42 rfl rfl), Or.inl rfl⟩
theorem po_RX3_1_4_8_2 : POK RX3 true 4 8 2 := ⟨RX3, TX3, 16, tyX3, rfl, tyX3_ok, nmX3, rfl, Or.inr ⟨rfl, rfl, rfl⟩⟩
theorem po_RX3_1_4_9_2 : POK RX3 true 4 9 2 := ⟨RX3, TX3, 16, tyX3, rfl, tyX3_ok, nmX3, rfl, Or.inr ⟨rfl, rfl, rfl⟩⟩
theorem fo_RX3_32 : FOK WB RX3 32 4 10 := ⟨RX3, TX3, 16, "RuleForge$Matcher", rfl, uw_4, by decide, (wb_2 44 rfl rfl), Or.inl rfl⟩
theorem po_RX3_1_4_10_2 : POK RX3 true 4 10 2 := ⟨RX3, TX3, 16, tyX3, rfl, tyX3_ok, nmX3, rfl, Or.inr ⟨rfl, rfl, rfl⟩⟩
theorem po_RX3_1_4_11_2 : POK RX3 true 4 11 2 := ⟨RX3, TX3, 16, tyX3, rfl, tyX3_ok, nmX3, rfl, Or.inr ⟨rfl, rfl, rfl⟩⟩
theorem po_RX3_1_4_0_2 : POK RX3 true 4 0 2 := ⟨RX3, TX3, 16, tyX3, rfl, tyX3_ok, nmX3, rfl, Or.inr ⟨rfl, rfl, rfl⟩⟩
theorem fo_RX3_42 : FOK WB RX3 42 9 0 := ⟨RX8, TX8, 11, "RuleForge$Terms", rfl, uw_9, by decide, (wb_1 118 rfl rfl), Or.inl rfl⟩
theorem po_RX3_1_4_1_2 : POK RX3 true 4 1 2 := ⟨RX3, TX3, 16, tyX3, rfl, tyX3_ok, nmX3, rfl, Or.inr ⟨rfl, rfl, rfl⟩⟩
theorem no_RX3_9 : NOK WB RX3 9 5 [2, 2, 0, 2, 2, 2, 2, 2, 2, 0, 2, 2, 2, 2, 2, 0] := ⟨RX4, TX4, 16, tyX4, rfl, uw_5, tyX4_ok, (wb_1 212 rfl rfl), (wb_1 213 rfl rfl), (wb_1 7 rfl rfl), rfl, nok_fk rfl⟩
theorem po_RX3_1_4_2_2 : POK RX3 true 4 2 2 := ⟨RX3, TX3, 16, tyX3, rfl, tyX3_ok, nmX3, rfl, Or.inr ⟨rfl, rfl, rfl⟩⟩
theorem fo_RX0_9 : FOK WB RX0 9 1 5 := ⟨RX0, TX0, 14, "RuleForge$CriticalPairs", rfl, uw_1, by decide, (wb_3 41 rfl rfl), Or.inl rfl⟩
theorem po_RX0_1_1_5_2 : POK RX0 true 1 5 2 := ⟨RX0, TX0, 14, tyX0, rfl, tyX0_ok, nmX0, rfl, Or.inr ⟨rfl, rfl, rfl⟩⟩
theorem fo_RX0_15 : FOK WB RX0 15 1 6 := ⟨RX0, TX0, 14, "RuleForge$CriticalPairs", rfl, uw_1, by decide, (wb_3 42 rfl rfl), Or.inl rfl⟩
theorem po_RX0_1_1_6_2 : POK RX0 true 1 6 2 := ⟨RX0, TX0, 14, tyX0, rfl, tyX0_ok, nmX0, rfl, Or.inr ⟨rfl, rfl, rfl⟩⟩
theorem fo_RX0_18 : FOK WB RX0 18 1 7 := ⟨RX0, TX0, 14, "RuleForge$CriticalPairs", rfl, uw_1, by decide, (wb_3 43 rfl rfl), Or.inl rfl⟩
theorem po_RX0_1_1_7_2 : POK RX0 true 1 7 2 := ⟨RX0, TX0, 14, tyX0, rfl, tyX0_ok, nmX0, rfl, Or.inr ⟨rfl, rfl, rfl⟩⟩
theorem fo_RX0_21 : FOK WB RX0 21 1 9 := ⟨RX0, TX0, 14, "RuleForge$CriticalPairs", rfl, uw_1, by decide, (wb_3 45 rfl rfl), Or.inl rfl⟩
theorem po_RX0_1_1_9_2 : POK RX0 true 1 9 2 := ⟨RX0, TX0, 14, tyX0, rfl, tyX0_ok, nmX0, rfl, Or.inr ⟨rfl, rfl, rfl⟩⟩
theorem fo_RX0_24 : FOK WB RX0 24 1 13 := ⟨RX0, TX0, 14, "RuleForge$CriticalPairs", rfl, uw_1, by decide, (wb_3 50 rfl rfl), Or.inl rfl⟩
theorem po_RX0_1_1_13_2 : POK RX0 true 1 13 2 := ⟨RX0, TX0, 14, tyX0, rfl, tyX0_ok, nmX0, rfl, Or.inr ⟨rfl, rfl, rfl⟩⟩
theorem fo_RX0_28 : FOK WB RX0 28 7 0 := ⟨RX6, TX6, 10, "RuleForge$Reducer", rfl, uw_7, by decide, (wb_2 96 rfl rfl), Or.inl rfl⟩
theorem fo_RX0_34 : FOK WB RX0 34 1 0 := ⟨RX0, TX0, 14, "RuleForge$CriticalPairs", rfl, uw_1, by decide, (wb_3 35 rfl rfl), Or.inl rfl⟩
theorem po_RX0_1_1_0_2 : POK RX0 true 1 0 2 := ⟨RX0, TX0, 14, tyX0, rfl, tyX0_ok, nmX0, rfl, Or.inr ⟨rfl, rfl, rfl⟩⟩
theorem fo_RX0_35 : FOK WB RX0 35 9 0 := ⟨RX8, TX8, 11, "RuleForge$Terms", rfl, uw_9, by decide, (wb_1 116 rfl rfl), Or.inl rfl⟩
theorem fo_RX0_41 : FOK WB RX0 41 1 1 := ⟨RX0, TX0, 14, "RuleForge$CriticalPairs", rfl, uw_1, by decide, (wb_3 36 rfl rfl), Or.inl rfl⟩
theorem po_RX0_1_1_1_2 : POK RX0 true 1 1 2 := ⟨RX0, TX0, 14, tyX0, rfl, tyX0_ok, nmX0, rfl, Or.inr ⟨rfl, rfl, rfl⟩⟩
theorem fo_RX0_42 : FOK WB RX0 42 7 1 := ⟨RX6, TX6, 10, "RuleForge$Reducer", rfl, uw_7, by decide, (wb_2 100 rfl rfl), Or.inl rfl⟩
theorem fo_RX0_46 : FOK WB RX0 46 1 2 := ⟨RX0, TX0, 14, "RuleForge$CriticalPairs", rfl, uw_1, by decide, (wb_3 37 rfl rfl), Or.inl rfl⟩
theorem po_RX0_1_1_2_2 : POK RX0 true 1 2 2 := ⟨RX0, TX0, 14, tyX0, rfl, tyX0_ok, nmX0, rfl, Or.inr ⟨rfl, rfl, rfl⟩⟩
theorem fo_RX0_47 : FOK WB RX0 47 1 3 := ⟨RX0, TX0, 14, "RuleForge$CriticalPairs", rfl, uw_1, by decide, (wb_3 38 rfl rfl), Or.inl rfl⟩
theorem po_RX0_1_1_3_2 : POK RX0 true 1 3 2 := ⟨RX0, TX0, 14, tyX0, rfl, tyX0_ok, nmX0, rfl, Or.inr ⟨rfl, rfl, rfl⟩⟩
theorem fo_RJxc12de_7 : FOK WB RJxc12de 7 0 0 := ⟨RJx4a65c, TJx4a65c, 3, "java/util/AbstractList", rfl, uw_0, by decide, (wb_7 62 rfl rfl), Or.inl rfl⟩
theorem po_RJxc12de_1_0_0_0 : POK RJxc12de true 0 0 0 := ⟨RJx4a65c, TJx4a65c, 3, tyJx4a65c, rfl, tyJx4a65c_ok, nmJx4a65c, rfl, Or.inl rfl⟩
theorem po_RJx4a65c_1_0_1_2 : POK RJx4a65c true 0 1 2 := ⟨RJx4a65c, TJx4a65c, 3, tyJx4a65c, rfl, tyJx4a65c_ok, nmJx4a65c, rfl, Or.inl rfl⟩
theorem po_RJx4a65c_0_0_1_2 : POK RJx4a65c false 0 1 2 := ⟨RJx4a65c, TJx4a65c, 3, tyJx4a65c, rfl, tyJx4a65c_ok, nmJx4a65c, rfl, Or.inl rfl⟩
theorem po_RX6_1_7_5_2 : POK RX6 true 7 5 2 := ⟨RX6, TX6, 10, tyX6, rfl, tyX6_ok, nmX6, rfl, Or.inr ⟨rfl, rfl, rfl⟩⟩
theorem po_RX6_1_7_6_2 : POK RX6 true 7 6 2 := ⟨RX6, TX6, 10, tyX6, rfl, tyX6_ok, nmX6, rfl, Or.inr ⟨rfl, rfl, rfl⟩⟩
theorem po_RX6_1_7_7_2 : POK RX6 true 7 7 2 := ⟨RX6, TX6, 10, tyX6, rfl, tyX6_ok, nmX6, rfl, Or.inr ⟨rfl, rfl, rfl⟩⟩
theorem po_RX6_1_7_8_2 : POK RX6 true 7 8 2 := ⟨RX6, TX6, 10, tyX6, rfl, tyX6_ok, nmX6, rfl, Or.inr ⟨rfl, rfl, rfl⟩⟩
theorem po_RX6_1_7_9_2 : POK RX6 true 7 9 2 := ⟨RX6, TX6, 10, tyX6, rfl, tyX6_ok, nmX6, rfl, Or.inr ⟨rfl, rfl, rfl⟩⟩
theorem fo_RX6_27 : FOK WB RX6 27 3 0 := ⟨RX2, TX2, 5, "RuleForge$Laws", rfl, uw_3, by decide, (wb_1 181 rfl rfl), Or.inl rfl⟩
theorem po_RX6_1_7_0_2 : POK RX6 true 7 0 2 := ⟨RX6, TX6, 10, tyX6, rfl, tyX6_ok, nmX6, rfl, Or.inr ⟨rfl, rfl, rfl⟩⟩
theorem po_RX6_1_7_1_2 : POK RX6 true 7 1 2 := ⟨RX6, TX6, 10, tyX6, rfl, tyX6_ok, nmX6, rfl, Or.inr ⟨rfl, rfl, rfl⟩⟩
theorem po_RX6_1_7_2_2 : POK RX6 true 7 2 2 := ⟨RX6, TX6, 10, tyX6, rfl, tyX6_ok, nmX6, rfl, Or.inr ⟨rfl, rfl, rfl⟩⟩
theorem fo_RX2_9 : FOK WB RX2 9 3 4 := ⟨RX2, TX2, 5, "RuleForge$Laws", rfl, uw_3, by decide, (wb_1 190 rfl rfl), Or.inl rfl⟩
theorem fo_RX2_26 : FOK WB RX2 26 3 2 := ⟨RX2, TX2, 5, "RuleForge$Laws", rfl, uw_3, by decide, (wb_1 183 rfl rfl), Or.inl rfl⟩
theorem fo_RX2_30 : FOK WB RX2 30 3 3 := ⟨RX2, TX2, 5, "RuleForge$Laws", rfl, uw_3, by decide, (wb_1 187 rfl rfl), Or.inl rfl⟩
theorem po_RX2_0_3_3_0 : POK RX2 false 3 3 0 := ⟨RX2, TX2, 5, tyX2, rfl, tyX2_ok, nmX2, rfl, Or.inl rfl⟩
theorem po_RX2_0_3_2_0 : POK RX2 false 3 2 0 := ⟨RX2, TX2, 5, tyX2, rfl, tyX2_ok, nmX2, rfl, Or.inl rfl⟩
theorem fo_RX1_9 : FOK WB RX1 9 2 4 := ⟨RX1, TX1, 9, "RuleForge$Explorer", rfl, uw_2, by decide, (wb_2 207 rfl rfl), Or.inl rfl⟩
theorem po_RX1_1_2_4_2 : POK RX1 true 2 4 2 := ⟨RX1, TX1, 9, tyX1, rfl, tyX1_ok, nmX1, rfl, Or.inr ⟨rfl, rfl, rfl⟩⟩
theorem fo_RX1_15 : FOK WB RX1 15 2 5 := ⟨RX1, TX1, 9, "RuleForge$Explorer", rfl, uw_2, by decide, (wb_2 209 rfl rfl), Or.inl rfl⟩
theorem po_RX1_1_2_5_2 : POK RX1 true 2 5 2 := ⟨RX1, TX1, 9, tyX1, rfl, tyX1_ok, nmX1, rfl, Or.inr ⟨rfl, rfl, rfl⟩⟩
theorem fo_RX1_18 : FOK WB RX1 18 2 6 := ⟨RX1, TX1, 9, "RuleForge$Explorer", rfl, uw_2, by decide, (wb_2 211 rfl rfl), Or.inl rfl⟩
theorem po_RX1_1_2_6_2 : POK RX1 true 2 6 2 := ⟨RX1, TX1, 9, tyX1, rfl, tyX1_ok, nmX1, rfl, Or.inr ⟨rfl, rfl, rfl⟩⟩
theorem fo_RX1_21 : FOK WB RX1 21 10 0 := ⟨RX9, TX9, 15, "RuleForge$Walker", rfl, uw_10, by decide, (wb_2 142 rfl rfl), Or.inl rfl⟩
theorem fo_RX1_27 : FOK WB RX1 27 2 0 := ⟨RX1, TX1, 9, "RuleForge$Explorer", rfl, uw_2, by decide, (wb_2 201 rfl rfl), Or.inl rfl⟩
theorem po_RX1_1_2_0_2 : POK RX1 true 2 0 2 := ⟨RX1, TX1, 9, tyX1, rfl, tyX1_ok, nmX1, rfl, Or.inr ⟨rfl, rfl, rfl⟩⟩
theorem fo_RX1_28 : FOK WB RX1 28 2 1 := ⟨RX1, TX1, 9, "RuleForge$Explorer", rfl, uw_2, by decide, (wb_2 202 rfl rfl), Or.inl rfl⟩
theorem po_RX1_1_2_1_2 : POK RX1 true 2 1 2 := ⟨RX1, TX1, 9, tyX1, rfl, tyX1_ok, nmX1, rfl, Or.inr ⟨rfl, rfl, rfl⟩⟩
theorem fo_RX5_11 : FOK WB RX5 11 6 4 := ⟨RX5, TX5, 9, "RuleForge$Plans", rfl, uw_6, by decide, (wb_3 4 rfl rfl), Or.inl rfl⟩
theorem po_RX5_1_6_4_2 : POK RX5 true 6 4 2 := ⟨RX5, TX5, 9, tyX5, rfl, tyX5_ok, nmX5, rfl, Or.inr ⟨rfl, rfl, rfl⟩⟩
theorem fo_RX5_15 : FOK WB RX5 15 6 5 := ⟨RX5, TX5, 9, "RuleForge$Plans", rfl, uw_6, by decide, (wb_3 5 rfl rfl), Or.inl rfl⟩
theorem po_RX5_1_6_5_2 : POK RX5 true 6 5 2 := ⟨RX5, TX5, 9, tyX5, rfl, tyX5_ok, nmX5, rfl, Or.inr ⟨rfl, rfl, rfl⟩⟩
theorem fo_RX5_18 : FOK WB RX5 18 6 6 := ⟨RX5, TX5, 9, "RuleForge$Plans", rfl, uw_6, by decide, (wb_3 6 rfl rfl), Or.inl rfl⟩
theorem po_RX5_1_6_6_2 : POK RX5 true 6 6 2 := ⟨RX5, TX5, 9, tyX5, rfl, tyX5_ok, nmX5, rfl, Or.inr ⟨rfl, rfl, rfl⟩⟩
theorem fo_RX5_21 : FOK WB RX5 21 10 0 := ⟨RX9, TX9, 15, "RuleForge$Walker", rfl, uw_10, by decide, (wb_2 143 rfl rfl), Or.inl rfl⟩
theorem fo_RX5_27 : FOK WB RX5 27 6 0 := ⟨RX5, TX5, 9, "RuleForge$Plans", rfl, uw_6, by decide, (wb_2 239 rfl rfl), Or.inl rfl⟩
theorem po_RX5_1_6_0_2 : POK RX5 true 6 0 2 := ⟨RX5, TX5, 9, tyX5, rfl, tyX5_ok, nmX5, rfl, Or.inr ⟨rfl, rfl, rfl⟩⟩
theorem fo_RX5_28 : FOK WB RX5 28 6 1 := ⟨RX5, TX5, 9, "RuleForge$Plans", rfl, uw_6, by decide, (wb_3 0 rfl rfl), Or.inl rfl⟩
theorem po_RX5_1_6_1_2 : POK RX5 true 6 1 2 := ⟨RX5, TX5, 9, tyX5, rfl, tyX5_ok, nmX5, rfl, Or.inr ⟨rfl, rfl, rfl⟩⟩
theorem fo_RX10_274 : FOK WB RX10 274 7 3 := ⟨RX6, TX6, 10, "RuleForge$Reducer", rfl, uw_7, by decide, (wb_2 107 rfl rfl), Or.inl rfl⟩
theorem po_RX10_0_7_3_0 : POK RX10 false 7 3 0 := ⟨RX6, TX6, 10, tyX6, rfl, tyX6_ok, nmX6, rfl, Or.inl rfl⟩
theorem no_RX17_260 : NOK WB RX17 260 16 [0] := ⟨RX15, TX15, 1, tyX15, rfl, uw_16, tyX15_ok, (wb_8 64 rfl rfl), (wb_8 65 rfl rfl), (wb_1 32 rfl rfl), rfl, nok_fk rfl⟩
theorem fo_RX9_9 : FOK WB RX9 9 7 0 := ⟨RX6, TX6, 10, "RuleForge$Reducer", rfl, uw_7, by decide, (wb_2 95 rfl rfl), Or.inl rfl⟩
theorem fo_RX9_15 : FOK WB RX9 15 10 0 := ⟨RX9, TX9, 15, "RuleForge$Walker", rfl, uw_10, by decide, (wb_2 141 rfl rfl), Or.inl rfl⟩
theorem po_RX9_1_10_0_2 : POK RX9 true 10 0 2 := ⟨RX9, TX9, 15, tyX9, rfl, tyX9_ok, nmX9, rfl, Or.inr ⟨rfl, rfl, rfl⟩⟩
theorem fo_RX9_18 : FOK WB RX9 18 10 1 := ⟨RX9, TX9, 15, "RuleForge$Walker", rfl, uw_10, by decide, (wb_2 144 rfl rfl), Or.inl rfl⟩
theorem po_RX9_1_10_1_2 : POK RX9 true 10 1 2 := ⟨RX9, TX9, 15, tyX9, rfl, tyX9_ok, nmX9, rfl, Or.inr ⟨rfl, rfl, rfl⟩⟩
theorem fo_RX9_22 : FOK WB RX9 22 7 1 := ⟨RX6, TX6, 10, "RuleForge$Reducer", rfl, uw_7, by decide, (wb_2 98 rfl rfl), Or.inl rfl⟩
theorem fo_RX9_26 : FOK WB RX9 26 10 2 := ⟨RX9, TX9, 15, "RuleForge$Walker", rfl, uw_10, by decide, (wb_2 146 rfl rfl), Or.inl rfl⟩
theorem po_RX9_1_10_2_2 : POK RX9 true 10 2 2 := ⟨RX9, TX9, 15, tyX9, rfl, tyX9_ok, nmX9, rfl, Or.inr ⟨rfl, rfl, rfl⟩⟩
theorem fo_RX9_27 : FOK WB RX9 27 7 2 := ⟨RX6, TX6, 10, "RuleForge$Reducer", rfl, uw_7, by decide, (wb_2 101 rfl rfl), Or.inl rfl⟩
theorem fo_RX9_31 : FOK WB RX9 31 10 3 := ⟨RX9, TX9, 15, "RuleForge$Walker", rfl, uw_10, by decide, (wb_2 148 rfl rfl), Or.inl rfl⟩
theorem po_RX9_1_10_3_2 : POK RX9 true 10 3 2 := ⟨RX9, TX9, 15, tyX9, rfl, tyX9_ok, nmX9, rfl, Or.inr ⟨rfl, rfl, rfl⟩⟩
theorem po_RX2_1_3_4_2 : POK RX2 true 3 4 2 := ⟨RX2, TX2, 5, tyX2, rfl, tyX2_ok, nmX2, rfl, Or.inr ⟨rfl, rfl, rfl⟩⟩
theorem po_RX2_1_3_0_2 : POK RX2 true 3 0 2 := ⟨RX2, TX2, 5, tyX2, rfl, tyX2_ok, nmX2, rfl, Or.inr ⟨rfl, rfl, rfl⟩⟩
theorem fo_RX2_19 : FOK WB RX2 19 9 0 := ⟨RX8, TX8, 11, "RuleForge$Terms", rfl, uw_9, by decide, (wb_1 115 rfl rfl), Or.inl rfl⟩
theorem po_RX2_1_3_1_2 : POK RX2 true 3 1 2 := ⟨RX2, TX2, 5, tyX2, rfl, tyX2_ok, nmX2, rfl, Or.inr ⟨rfl, rfl, rfl⟩⟩
theorem ac_int : Jvm.Cond.arrayClass (newarray.typeOf .int) ∈ WB := (wb_1 108 rfl rfl)
theorem ac_boolean : Jvm.Cond.arrayClass (newarray.typeOf .boolean) ∈ WB := (wb_1 205 rfl rfl)
theorem ac_long : Jvm.Cond.arrayClass (newarray.typeOf .long) ∈ WB := (wb_3 80 rfl rfl)
theorem ob_1 : Jvm.Cond.instanceMethod objectInit ∈ WB := (wb_1 41 rfl rfl)
theorem ob_2 : Jvm.Cond.code objectInit ⟨#[0xb1]⟩ 1 none ∈ WB := (wb_1 42 rfl rfl)
theorem cp_1 : Jvm.Cond.native arraycopyName ∈ WB := (wb_3 186 rfl rfl)
theorem cp_2 : Jvm.Cond.static arraycopyName ∈ WB := (wb_3 185 rfl rfl)
theorem cp_3 : Jvm.Cond.initialized "java/lang/System" ∈ WB := (wb_1 24 rfl rfl)
theorem mx_1 : Jvm.Cond.static Lib.Math.max.name ∈ WB := (wb_4 148 rfl rfl)
theorem mx_2 : Jvm.Cond.initialized "java/lang/Math" ∈ WB := (wb_1 26 rfl rfl)
theorem mx_3 : Jvm.Cond.code Lib.Math.max.name Lib.Math.max.code 2 (some .int) ∈ WB := (wb_4 149 rfl rfl)
theorem tb_L_law : TB[0]? = some (md_L_law, tl_L_law) := rfl
theorem ho_L_law : HOK WB md_L_law := fun _ h => absurd h List.not_mem_nil
theorem tb_X8_end : TB[1]? = some (md_X8_end, tl_X8_end) := rfl
theorem pr_X8_end : (parseMethodDescriptor (mY md_X8_end).desc).map (fun d => d.parameters.length) = some (mN md_X8_end - 1) := by decide +kernel
theorem in_X8_end : Jvm.Cond.instanceMethod (mY md_X8_end) ∈ WB := (wb_3 150 rfl rfl)
theorem se_X8_end : Jvm.Cond.selects (mY md_X8_end).cls (mY md_X8_end) (mY md_X8_end) ∈ WB := (wb_3 151 rfl rfl)
theorem ho_X8_end : HOK WB md_X8_end := fun _ h => absurd h List.not_mem_nil
theorem mo_X8_end : MOK WB md_X8_end := ⟨by decide, (wb_3 152 rfl rfl), (wb_1 4 rfl rfl), by decide +kernel, ⟨by decide +kernel, by decide +kernel⟩, rfl, (fun h => by cases h), by decide, ho_X8_end⟩
theorem tb_X8_putOn : TB[2]? = some (md_X8_putOn, tl_X8_putOn) := rfl
theorem pr_X8_putOn : (parseMethodDescriptor (mY md_X8_putOn).desc).map (fun d => d.parameters.length) = some (mN md_X8_putOn - 1) := by decide +kernel
theorem in_X8_putOn : Jvm.Cond.instanceMethod (mY md_X8_putOn) ∈ WB := (wb_3 173 rfl rfl)
theorem se_X8_putOn : Jvm.Cond.selects (mY md_X8_putOn).cls (mY md_X8_putOn) (mY md_X8_putOn) ∈ WB := (wb_3 174 rfl rfl)
theorem ho_X8_putOn : HOK WB md_X8_putOn := fun _ h => absurd h List.not_mem_nil
theorem mo_X8_putOn : MOK WB md_X8_putOn := ⟨by decide, (wb_3 175 rfl rfl), (wb_1 4 rfl rfl), by decide +kernel, ⟨by decide +kernel, by decide +kernel⟩, rfl, (fun h => by cases h), by decide, ho_X8_putOn⟩
theorem tb_X8_write : TB[3]? = some (md_X8_write, tl_X8_write) := rfl
theorem pr_X8_write : (parseMethodDescriptor (mY md_X8_write).desc).map (fun d => d.parameters.length) = some (mN md_X8_write - 1) := by decide +kernel
theorem in_X8_write : Jvm.Cond.instanceMethod (mY md_X8_write) ∈ WB := (wb_3 182 rfl rfl)
theorem se_X8_write : Jvm.Cond.selects (mY md_X8_write).cls (mY md_X8_write) (mY md_X8_write) ∈ WB := (wb_0 3 rfl rfl)
theorem ho_X8_write : HOK WB md_X8_write := fun _ h => absurd h List.not_mem_nil
theorem mo_X8_write : MOK WB md_X8_write := ⟨by decide, (wb_3 183 rfl rfl), (wb_1 4 rfl rfl), by decide +kernel, ⟨by decide +kernel, by decide +kernel⟩, rfl, (fun h => by cases h), by decide, ho_X8_write⟩
theorem tb_X8_rebuild : TB[4]? = some (md_X8_rebuild, tl_X8_rebuild) := rfl
theorem pr_X8_rebuild : (parseMethodDescriptor (mY md_X8_rebuild).desc).map (fun d => d.parameters.length) = some (mN md_X8_rebuild - 1) := by decide +kernel
theorem in_X8_rebuild : Jvm.Cond.instanceMethod (mY md_X8_rebuild) ∈ WB := (wb_3 163 rfl rfl)
theorem se_X8_rebuild : Jvm.Cond.selects (mY md_X8_rebuild).cls (mY md_X8_rebuild) (mY md_X8_rebuild) ∈ WB := (wb_0 2 rfl rfl)
theorem ho_X8_rebuild : HOK WB md_X8_rebuild := fun _ h => absurd h List.not_mem_nil
theorem mo_X8_rebuild : MOK WB md_X8_rebuild := ⟨by decide, (wb_3 164 rfl rfl), (wb_1 4 rfl rfl), by decide +kernel, ⟨by decide +kernel, by decide +kernel⟩, rfl, (fun h => by cases h), by decide, ho_X8_rebuild⟩
theorem tb_X17_placed : TB[5]? = some (md_X17_placed, tl_X17_placed) := rfl
theorem pr_X17_placed : (parseMethodDescriptor (mY md_X17_placed).desc).map (fun d => d.parameters.length) = some (mN md_X17_placed - 1) := by decide +kernel
theorem in_X17_placed : Jvm.Cond.instanceMethod (mY md_X17_placed) ∈ WB := (wb_9 7 rfl rfl)
theorem se_X17_placed : Jvm.Cond.selects (mY md_X17_placed).cls (mY md_X17_placed) (mY md_X17_placed) ∈ WB := (wb_0 71 rfl rfl)
theorem ho_X17_placed : HOK WB md_X17_placed := fun _ h => absurd h List.not_mem_nil
theorem mo_X17_placed : MOK WB md_X17_placed := ⟨by decide, (wb_9 8 rfl rfl), (wb_1 13 rfl rfl), by decide +kernel, ⟨by decide +kernel, by decide +kernel⟩, rfl, (fun h => by cases h), by decide, ho_X17_placed⟩
theorem tb_X6_normalForm : TB[6]? = some (md_X6_normalForm, tl_X6_normalForm) := rfl
theorem pr_X6_normalForm : (parseMethodDescriptor (mY md_X6_normalForm).desc).map (fun d => d.parameters.length) = some (mN md_X6_normalForm - 1) := by decide +kernel
theorem in_X6_normalForm : Jvm.Cond.instanceMethod (mY md_X6_normalForm) ∈ WB := (wb_3 212 rfl rfl)
theorem se_X6_normalForm : Jvm.Cond.selects (mY md_X6_normalForm).cls (mY md_X6_normalForm) (mY md_X6_normalForm) ∈ WB := (wb_0 6 rfl rfl)
theorem ho_X6_normalForm : HOK WB md_X6_normalForm := fun _ h => absurd h List.not_mem_nil
theorem mo_X6_normalForm : MOK WB md_X6_normalForm := ⟨by decide, (wb_3 213 rfl rfl), (wb_1 8 rfl rfl), by decide +kernel, ⟨by decide +kernel, by decide +kernel⟩, rfl, (fun h => by cases h), by decide, ho_X6_normalForm⟩
theorem tb_X6_look : TB[7]? = some (md_X6_look, tl_X6_look) := rfl
theorem pr_X6_look : (parseMethodDescriptor (mY md_X6_look).desc).map (fun d => d.parameters.length) = some (mN md_X6_look - 1) := by decide +kernel
theorem in_X6_look : Jvm.Cond.instanceMethod (mY md_X6_look) ∈ WB := (wb_3 220 rfl rfl)
theorem se_X6_look : Jvm.Cond.selects (mY md_X6_look).cls (mY md_X6_look) (mY md_X6_look) ∈ WB := (wb_0 8 rfl rfl)
theorem ho_X6_look : HOK WB md_X6_look := fun _ h => absurd h List.not_mem_nil
theorem mo_X6_look : MOK WB md_X6_look := ⟨by decide, (wb_3 221 rfl rfl), (wb_1 8 rfl rfl), by decide +kernel, ⟨by decide +kernel, by decide +kernel⟩, rfl, (fun h => by cases h), by decide, ho_X6_look⟩
theorem tb_X6_begin : TB[8]? = some (md_X6_begin, tl_X6_begin) := rfl
theorem pr_X6_begin : (parseMethodDescriptor (mY md_X6_begin).desc).map (fun d => d.parameters.length) = some (mN md_X6_begin - 1) := by decide +kernel
theorem in_X6_begin : Jvm.Cond.instanceMethod (mY md_X6_begin) ∈ WB := (wb_3 216 rfl rfl)
theorem se_X6_begin : Jvm.Cond.selects (mY md_X6_begin).cls (mY md_X6_begin) (mY md_X6_begin) ∈ WB := (wb_0 7 rfl rfl)
theorem ho_X6_begin : HOK WB md_X6_begin := fun _ h => absurd h List.not_mem_nil
theorem mo_X6_begin : MOK WB md_X6_begin := ⟨by decide, (wb_3 217 rfl rfl), (wb_1 8 rfl rfl), by decide +kernel, ⟨by decide +kernel, by decide +kernel⟩, rfl, (fun h => by cases h), by decide, ho_X6_begin⟩
theorem tb_J7_fill_53178 : TB[9]? = some (md_J7_fill_53178, tl_J7_fill_53178) := rfl
theorem pr_J7_fill_53178 : (parseMethodDescriptor (mY md_J7_fill_53178).desc).map (fun d => d.parameters.length) = some (mN md_J7_fill_53178) := by decide +kernel
theorem st_J7_fill_53178 : Jvm.Cond.static (mY md_J7_fill_53178) ∈ WB := (wb_1 50 rfl rfl)
theorem ho_J7_fill_53178 : HOK WB md_J7_fill_53178 := fun _ h => absurd h List.not_mem_nil
theorem mo_J7_fill_53178 : MOK WB md_J7_fill_53178 := ⟨by decide, (wb_1 51 rfl rfl), (wb_1 3 rfl rfl), by decide +kernel, ⟨by decide +kernel, by decide +kernel⟩, rfl, (fun h => by cases h), by decide, ho_J7_fill_53178⟩
theorem tb_X17_reduced : TB[10]? = some (md_X17_reduced, tl_X17_reduced) := rfl
theorem pr_X17_reduced : (parseMethodDescriptor (mY md_X17_reduced).desc).map (fun d => d.parameters.length) = some (mN md_X17_reduced - 1) := by decide +kernel
theorem in_X17_reduced : Jvm.Cond.instanceMethod (mY md_X17_reduced) ∈ WB := (wb_8 76 rfl rfl)
theorem se_X17_reduced : Jvm.Cond.selects (mY md_X17_reduced).cls (mY md_X17_reduced) (mY md_X17_reduced) ∈ WB := (wb_0 46 rfl rfl)
theorem ho_X17_reduced : HOK WB md_X17_reduced := fun _ h => absurd h List.not_mem_nil
theorem mo_X17_reduced : MOK WB md_X17_reduced := ⟨by decide, (wb_8 77 rfl rfl), (wb_1 13 rfl rfl), by decide +kernel, ⟨by decide +kernel, by decide +kernel⟩, rfl, (fun h => by cases h), by decide, ho_X17_reduced⟩
theorem tb_X8_await : TB[11]? = some (md_X8_await, tl_X8_await) := rfl
theorem pr_X8_await : (parseMethodDescriptor (mY md_X8_await).desc).map (fun d => d.parameters.length) = some (mN md_X8_await - 1) := by decide +kernel
theorem in_X8_await : Jvm.Cond.instanceMethod (mY md_X8_await) ∈ WB := (wb_3 167 rfl rfl)
theorem se_X8_await : Jvm.Cond.selects (mY md_X8_await).cls (mY md_X8_await) (mY md_X8_await) ∈ WB := (wb_3 168 rfl rfl)
theorem ho_X8_await : HOK WB md_X8_await := fun _ h => absurd h List.not_mem_nil
theorem mo_X8_await : MOK WB md_X8_await := ⟨by decide, (wb_3 169 rfl rfl), (wb_1 4 rfl rfl), by decide +kernel, ⟨by decide +kernel, by decide +kernel⟩, rfl, (fun h => by cases h), by decide, ho_X8_await⟩
theorem tb_X17_beneath : TB[12]? = some (md_X17_beneath, tl_X17_beneath) := rfl
theorem pr_X17_beneath : (parseMethodDescriptor (mY md_X17_beneath).desc).map (fun d => d.parameters.length) = some (mN md_X17_beneath - 1) := by decide +kernel
theorem in_X17_beneath : Jvm.Cond.instanceMethod (mY md_X17_beneath) ∈ WB := (wb_8 88 rfl rfl)
theorem se_X17_beneath : Jvm.Cond.selects (mY md_X17_beneath).cls (mY md_X17_beneath) (mY md_X17_beneath) ∈ WB := (wb_0 48 rfl rfl)
theorem ho_X17_beneath : HOK WB md_X17_beneath := fun _ h => absurd h List.not_mem_nil
theorem mo_X17_beneath : MOK WB md_X17_beneath := ⟨by decide, (wb_8 89 rfl rfl), (wb_1 13 rfl rfl), by decide +kernel, ⟨by decide +kernel, by decide +kernel⟩, rfl, (fun h => by cases h), by decide, ho_X17_beneath⟩
theorem tb_X16_isVariable : TB[13]? = some (md_X16_isVariable, tl_X16_isVariable) := rfl
theorem pr_X16_isVariable : (parseMethodDescriptor (mY md_X16_isVariable).desc).map (fun d => d.parameters.length) = some (mN md_X16_isVariable - 1) := by decide +kernel
theorem in_X16_isVariable : Jvm.Cond.instanceMethod (mY md_X16_isVariable) ∈ WB := (wb_8 79 rfl rfl)
theorem se_X16_isVariable : Jvm.Cond.selects (mY md_X16_isVariable).cls (mY md_X16_isVariable) (mY md_X16_isVariable) ∈ WB := (wb_8 80 rfl rfl)
theorem ho_X16_isVariable : HOK WB md_X16_isVariable := fun _ h => absurd h List.not_mem_nil
theorem mo_X16_isVariable : MOK WB md_X16_isVariable := ⟨by decide, (wb_8 81 rfl rfl), (wb_1 17 rfl rfl), by decide +kernel, ⟨by decide +kernel, by decide +kernel⟩, rfl, (fun h => by cases h), by decide, ho_X16_isVariable⟩
theorem tb_X3_noteMatch : TB[14]? = some (md_X3_noteMatch, tl_X3_noteMatch) := rfl
theorem pr_X3_noteMatch : (parseMethodDescriptor (mY md_X3_noteMatch).desc).map (fun d => d.parameters.length) = some (mN md_X3_noteMatch - 1) := by decide +kernel
theorem in_X3_noteMatch : Jvm.Cond.instanceMethod (mY md_X3_noteMatch) ∈ WB := (wb_4 71 rfl rfl)
theorem se_X3_noteMatch : Jvm.Cond.selects (mY md_X3_noteMatch).cls (mY md_X3_noteMatch) (mY md_X3_noteMatch) ∈ WB := (wb_0 17 rfl rfl)
theorem ho_X3_noteMatch : HOK WB md_X3_noteMatch := fun _ h => absurd h List.not_mem_nil
theorem mo_X3_noteMatch : MOK WB md_X3_noteMatch := ⟨by decide, (wb_4 72 rfl rfl), (wb_1 6 rfl rfl), by decide +kernel, ⟨by decide +kernel, by decide +kernel⟩, rfl, (fun h => by cases h), by decide, ho_X3_noteMatch⟩
theorem tb_X17_stamp : TB[15]? = some (md_X17_stamp, tl_X17_stamp) := rfl
theorem pr_X17_stamp : (parseMethodDescriptor (mY md_X17_stamp).desc).map (fun d => d.parameters.length) = some (mN md_X17_stamp - 1) := by decide +kernel
theorem in_X17_stamp : Jvm.Cond.instanceMethod (mY md_X17_stamp) ∈ WB := (wb_8 84 rfl rfl)
theorem se_X17_stamp : Jvm.Cond.selects (mY md_X17_stamp).cls (mY md_X17_stamp) (mY md_X17_stamp) ∈ WB := (wb_0 47 rfl rfl)
theorem ho_X17_stamp : HOK WB md_X17_stamp := fun _ h => absurd h List.not_mem_nil
theorem mo_X17_stamp : MOK WB md_X17_stamp := ⟨by decide, (wb_8 85 rfl rfl), (wb_1 13 rfl rfl), by decide +kernel, ⟨by decide +kernel, by decide +kernel⟩, rfl, (fun h => by cases h), by decide, ho_X17_stamp⟩
theorem tb_X10_operatorIn : TB[16]? = some (md_X10_operatorIn, tl_X10_operatorIn) := rfl
theorem pr_X10_operatorIn : (parseMethodDescriptor (mY md_X10_operatorIn).desc).map (fun d => d.parameters.length) = some (mN md_X10_operatorIn) := by decide +kernel
theorem st_X10_operatorIn : Jvm.Cond.static (mY md_X10_operatorIn) ∈ WB := (wb_3 154 rfl rfl)
theorem ho_X10_operatorIn : HOK WB md_X10_operatorIn := fun _ h => absurd h List.not_mem_nil
theorem mo_X10_operatorIn : MOK WB md_X10_operatorIn := ⟨by decide, (wb_3 155 rfl rfl), (wb_1 1 rfl rfl), by decide +kernel, ⟨by decide +kernel, by decide +kernel⟩, rfl, (fun h => by cases h), by decide, ho_X10_operatorIn⟩
theorem tb_X17_found : TB[17]? = some (md_X17_found, tl_X17_found) := rfl
theorem pr_X17_found : (parseMethodDescriptor (mY md_X17_found).desc).map (fun d => d.parameters.length) = some (mN md_X17_found - 1) := by decide +kernel
theorem in_X17_found : Jvm.Cond.instanceMethod (mY md_X17_found) ∈ WB := (wb_8 161 rfl rfl)
theorem se_X17_found : Jvm.Cond.selects (mY md_X17_found).cls (mY md_X17_found) (mY md_X17_found) ∈ WB := (wb_0 54 rfl rfl)
theorem ho_X17_found : HOK WB md_X17_found := fun _ h => absurd h List.not_mem_nil
theorem mo_X17_found : MOK WB md_X17_found := ⟨by decide, (wb_8 162 rfl rfl), (wb_1 13 rfl rfl), by decide +kernel, ⟨by decide +kernel, by decide +kernel⟩, rfl, (fun h => by cases h), by decide, ho_X17_found⟩
theorem tb_X3_giveMatch : TB[18]? = some (md_X3_giveMatch, tl_X3_giveMatch) := rfl
theorem pr_X3_giveMatch : (parseMethodDescriptor (mY md_X3_giveMatch).desc).map (fun d => d.parameters.length) = some (mN md_X3_giveMatch - 1) := by decide +kernel
theorem in_X3_giveMatch : Jvm.Cond.instanceMethod (mY md_X3_giveMatch) ∈ WB := (wb_4 119 rfl rfl)
theorem se_X3_giveMatch : Jvm.Cond.selects (mY md_X3_giveMatch).cls (mY md_X3_giveMatch) (mY md_X3_giveMatch) ∈ WB := (wb_4 120 rfl rfl)
theorem ho_X3_giveMatch : HOK WB md_X3_giveMatch := fun _ h => absurd h List.not_mem_nil
theorem mo_X3_giveMatch : MOK WB md_X3_giveMatch := ⟨by decide, (wb_4 121 rfl rfl), (wb_1 6 rfl rfl), by decide +kernel, ⟨by decide +kernel, by decide +kernel⟩, rfl, (fun h => by cases h), by decide, ho_X3_giveMatch⟩
theorem tb_X17_givenBy : TB[19]? = some (md_X17_givenBy, tl_X17_givenBy) := rfl
theorem pr_X17_givenBy : (parseMethodDescriptor (mY md_X17_givenBy).desc).map (fun d => d.parameters.length) = some (mN md_X17_givenBy) := by decide +kernel
theorem st_X17_givenBy : Jvm.Cond.static (mY md_X17_givenBy) ∈ WB := (wb_8 239 rfl rfl)
theorem ho_X17_givenBy : HOK WB md_X17_givenBy := fun _ h => absurd h List.not_mem_nil
theorem mo_X17_givenBy : MOK WB md_X17_givenBy := ⟨by decide, (wb_9 0 rfl rfl), (wb_1 13 rfl rfl), by decide +kernel, ⟨by decide +kernel, by decide +kernel⟩, rfl, (fun h => by cases h), by decide, ho_X17_givenBy⟩
theorem tb_X4_rankAll : TB[20]? = some (md_X4_rankAll, tl_X4_rankAll) := rfl
theorem pr_X4_rankAll : (parseMethodDescriptor (mY md_X4_rankAll).desc).map (fun d => d.parameters.length) = some (mN md_X4_rankAll - 1) := by decide +kernel
theorem in_X4_rankAll : Jvm.Cond.instanceMethod (mY md_X4_rankAll) ∈ WB := (wb_4 46 rfl rfl)
theorem se_X4_rankAll : Jvm.Cond.selects (mY md_X4_rankAll).cls (mY md_X4_rankAll) (mY md_X4_rankAll) ∈ WB := (wb_4 47 rfl rfl)
theorem ho_X4_rankAll : HOK WB md_X4_rankAll := fun _ h => absurd h List.not_mem_nil
theorem mo_X4_rankAll : MOK WB md_X4_rankAll := ⟨by decide, (wb_4 48 rfl rfl), (wb_1 7 rfl rfl), by decide +kernel, ⟨by decide +kernel, by decide +kernel⟩, rfl, (fun h => by cases h), by decide, ho_X4_rankAll⟩
theorem tb_X3_list : TB[21]? = some (md_X3_list, tl_X3_list) := rfl
theorem pr_X3_list : (parseMethodDescriptor (mY md_X3_list).desc).map (fun d => d.parameters.length) = some (mN md_X3_list - 1) := by decide +kernel
theorem in_X3_list : Jvm.Cond.instanceMethod (mY md_X3_list) ∈ WB := (wb_4 7 rfl rfl)
theorem se_X3_list : Jvm.Cond.selects (mY md_X3_list).cls (mY md_X3_list) (mY md_X3_list) ∈ WB := (wb_4 8 rfl rfl)
theorem ho_X3_list : HOK WB md_X3_list := fun _ h => absurd h List.not_mem_nil
theorem mo_X3_list : MOK WB md_X3_list := ⟨by decide, (wb_4 9 rfl rfl), (wb_1 6 rfl rfl), by decide +kernel, ⟨by decide +kernel, by decide +kernel⟩, rfl, (fun h => by cases h), by decide, ho_X3_list⟩
theorem tb_X6_rewritten : TB[22]? = some (md_X6_rewritten, tl_X6_rewritten) := rfl
theorem pr_X6_rewritten : (parseMethodDescriptor (mY md_X6_rewritten).desc).map (fun d => d.parameters.length) = some (mN md_X6_rewritten - 1) := by decide +kernel
theorem in_X6_rewritten : Jvm.Cond.instanceMethod (mY md_X6_rewritten) ∈ WB := (wb_3 232 rfl rfl)
theorem se_X6_rewritten : Jvm.Cond.selects (mY md_X6_rewritten).cls (mY md_X6_rewritten) (mY md_X6_rewritten) ∈ WB := (wb_0 10 rfl rfl)
theorem ho_X6_rewritten : HOK WB md_X6_rewritten := fun _ h => absurd h List.not_mem_nil
theorem mo_X6_rewritten : MOK WB md_X6_rewritten := ⟨by decide, (wb_3 233 rfl rfl), (wb_1 8 rfl rfl), by decide +kernel, ⟨by decide +kernel, by decide +kernel⟩, rfl, (fun h => by cases h), by decide, ho_X6_rewritten⟩
theorem tb_X8_variablesAt : TB[23]? = some (md_X8_variablesAt, tl_X8_variablesAt) := rfl
theorem pr_X8_variablesAt : (parseMethodDescriptor (mY md_X8_variablesAt).desc).map (fun d => d.parameters.length) = some (mN md_X8_variablesAt - 1) := by decide +kernel
theorem in_X8_variablesAt : Jvm.Cond.instanceMethod (mY md_X8_variablesAt) ∈ WB := (wb_3 197 rfl rfl)
theorem se_X8_variablesAt : Jvm.Cond.selects (mY md_X8_variablesAt).cls (mY md_X8_variablesAt) (mY md_X8_variablesAt) ∈ WB := (wb_3 198 rfl rfl)
theorem ho_X8_variablesAt : HOK WB md_X8_variablesAt := fun _ h => absurd h List.not_mem_nil
theorem mo_X8_variablesAt : MOK WB md_X8_variablesAt := ⟨by decide, (wb_3 199 rfl rfl), (wb_1 4 rfl rfl), by decide +kernel, ⟨by decide +kernel, by decide +kernel⟩, rfl, (fun h => by cases h), by decide, ho_X8_variablesAt⟩
theorem tb_Jx4a65c_size_8abf5 : TB[24]? = some (md_Jx4a65c_size_8abf5, tl_Jx4a65c_size_8abf5) := rfl
theorem pr_Jx4a65c_size_8abf5 : (parseMethodDescriptor (mY md_Jx4a65c_size_8abf5).desc).map (fun d => d.parameters.length) = some (mN md_Jx4a65c_size_8abf5 - 1) := by decide +kernel
theorem in_Jx4a65c_size_8abf5 : Jvm.Cond.instanceMethod (mY md_Jx4a65c_size_8abf5) ∈ WB := (wb_8 37 rfl rfl)
theorem ho_Jx4a65c_size_8abf5 : HOK WB md_Jx4a65c_size_8abf5 := fun _ h => absurd h List.not_mem_nil
theorem mo_Jx4a65c_size_8abf5 : MOK WB md_Jx4a65c_size_8abf5 := ⟨by decide, (wb_8 39 rfl rfl), (wb_1 16 rfl rfl), by decide +kernel, ⟨by decide +kernel, by decide +kernel⟩, rfl, (fun h => by cases h), by decide, ho_Jx4a65c_size_8abf5⟩
theorem tb_X4_collect : TB[25]? = some (md_X4_collect, tl_X4_collect) := rfl
theorem pr_X4_collect : (parseMethodDescriptor (mY md_X4_collect).desc).map (fun d => d.parameters.length) = some (mN md_X4_collect - 1) := by decide +kernel
theorem in_X4_collect : Jvm.Cond.instanceMethod (mY md_X4_collect) ∈ WB := (wb_4 11 rfl rfl)
theorem se_X4_collect : Jvm.Cond.selects (mY md_X4_collect).cls (mY md_X4_collect) (mY md_X4_collect) ∈ WB := (wb_4 12 rfl rfl)
theorem ho_X4_collect : HOK WB md_X4_collect := fun _ h => absurd h List.not_mem_nil
theorem mo_X4_collect : MOK WB md_X4_collect := ⟨by decide, (wb_4 13 rfl rfl), (wb_1 7 rfl rfl), by decide +kernel, ⟨by decide +kernel, by decide +kernel⟩, rfl, (fun h => by cases h), by decide, ho_X4_collect⟩
theorem tb_X2_canFit : TB[26]? = some (md_X2_canFit, tl_X2_canFit) := rfl
theorem pr_X2_canFit : (parseMethodDescriptor (mY md_X2_canFit).desc).map (fun d => d.parameters.length) = some (mN md_X2_canFit - 1) := by decide +kernel
theorem in_X2_canFit : Jvm.Cond.instanceMethod (mY md_X2_canFit) ∈ WB := (wb_3 235 rfl rfl)
theorem se_X2_canFit : Jvm.Cond.selects (mY md_X2_canFit).cls (mY md_X2_canFit) (mY md_X2_canFit) ∈ WB := (wb_3 236 rfl rfl)
theorem ho_X2_canFit : HOK WB md_X2_canFit := fun _ h => absurd h List.not_mem_nil
theorem mo_X2_canFit : MOK WB md_X2_canFit := ⟨by decide, (wb_3 237 rfl rfl), (wb_1 5 rfl rfl), by decide +kernel, ⟨by decide +kernel, by decide +kernel⟩, rfl, (fun h => by cases h), by decide, ho_X2_canFit⟩
theorem tb_X6_finish : TB[27]? = some (md_X6_finish, tl_X6_finish) := rfl
theorem pr_X6_finish : (parseMethodDescriptor (mY md_X6_finish).desc).map (fun d => d.parameters.length) = some (mN md_X6_finish - 1) := by decide +kernel
theorem in_X6_finish : Jvm.Cond.instanceMethod (mY md_X6_finish) ∈ WB := (wb_3 226 rfl rfl)
theorem se_X6_finish : Jvm.Cond.selects (mY md_X6_finish).cls (mY md_X6_finish) (mY md_X6_finish) ∈ WB := (wb_0 9 rfl rfl)
theorem ho_X6_finish : HOK WB md_X6_finish := fun _ h => absurd h List.not_mem_nil
theorem mo_X6_finish : MOK WB md_X6_finish := ⟨by decide, (wb_3 227 rfl rfl), (wb_1 8 rfl rfl), by decide +kernel, ⟨by decide +kernel, by decide +kernel⟩, rfl, (fun h => by cases h), by decide, ho_X6_finish⟩
theorem tb_X17_used : TB[28]? = some (md_X17_used, tl_X17_used) := rfl
theorem pr_X17_used : (parseMethodDescriptor (mY md_X17_used).desc).map (fun d => d.parameters.length) = some (mN md_X17_used - 1) := by decide +kernel
theorem in_X17_used : Jvm.Cond.instanceMethod (mY md_X17_used) ∈ WB := (wb_8 143 rfl rfl)
theorem se_X17_used : Jvm.Cond.selects (mY md_X17_used).cls (mY md_X17_used) (mY md_X17_used) ∈ WB := (wb_0 53 rfl rfl)
theorem ho_X17_used : HOK WB md_X17_used := fun _ h => absurd h List.not_mem_nil
theorem mo_X17_used : MOK WB md_X17_used := ⟨by decide, (wb_8 144 rfl rfl), (wb_1 13 rfl rfl), by decide +kernel, ⟨by decide +kernel, by decide +kernel⟩, rfl, (fun h => by cases h), by decide, ho_X17_used⟩
theorem tb_X8_sortAt : TB[29]? = some (md_X8_sortAt, tl_X8_sortAt) := rfl
theorem pr_X8_sortAt : (parseMethodDescriptor (mY md_X8_sortAt).desc).map (fun d => d.parameters.length) = some (mN md_X8_sortAt - 1) := by decide +kernel
theorem in_X8_sortAt : Jvm.Cond.instanceMethod (mY md_X8_sortAt) ∈ WB := (wb_4 52 rfl rfl)
theorem se_X8_sortAt : Jvm.Cond.selects (mY md_X8_sortAt).cls (mY md_X8_sortAt) (mY md_X8_sortAt) ∈ WB := (wb_0 14 rfl rfl)
theorem ho_X8_sortAt : HOK WB md_X8_sortAt := fun _ h => absurd h List.not_mem_nil
theorem mo_X8_sortAt : MOK WB md_X8_sortAt := ⟨by decide, (wb_4 53 rfl rfl), (wb_1 4 rfl rfl), by decide +kernel, ⟨by decide +kernel, by decide +kernel⟩, rfl, (fun h => by cases h), by decide, ho_X8_sortAt⟩
theorem tb_X17_isLast : TB[30]? = some (md_X17_isLast, tl_X17_isLast) := rfl
theorem pr_X17_isLast : (parseMethodDescriptor (mY md_X17_isLast).desc).map (fun d => d.parameters.length) = some (mN md_X17_isLast - 1) := by decide +kernel
theorem in_X17_isLast : Jvm.Cond.instanceMethod (mY md_X17_isLast) ∈ WB := (wb_8 178 rfl rfl)
theorem se_X17_isLast : Jvm.Cond.selects (mY md_X17_isLast).cls (mY md_X17_isLast) (mY md_X17_isLast) ∈ WB := (wb_0 57 rfl rfl)
theorem ho_X17_isLast : HOK WB md_X17_isLast := fun _ h => absurd h List.not_mem_nil
theorem mo_X17_isLast : MOK WB md_X17_isLast := ⟨by decide, (wb_8 179 rfl rfl), (wb_1 13 rfl rfl), by decide +kernel, ⟨by decide +kernel, by decide +kernel⟩, rfl, (fun h => by cases h), by decide, ho_X17_isLast⟩
theorem tb_X4_add : TB[31]? = some (md_X4_add, tl_X4_add) := rfl
theorem pr_X4_add : (parseMethodDescriptor (mY md_X4_add).desc).map (fun d => d.parameters.length) = some (mN md_X4_add - 1) := by decide +kernel
theorem in_X4_add : Jvm.Cond.instanceMethod (mY md_X4_add) ∈ WB := (wb_4 17 rfl rfl)
theorem se_X4_add : Jvm.Cond.selects (mY md_X4_add).cls (mY md_X4_add) (mY md_X4_add) ∈ WB := (wb_0 12 rfl rfl)
theorem ho_X4_add : HOK WB md_X4_add := fun _ h => absurd h List.not_mem_nil
theorem mo_X4_add : MOK WB md_X4_add := ⟨by decide, (wb_4 18 rfl rfl), (wb_1 7 rfl rfl), by decide +kernel, ⟨by decide +kernel, by decide +kernel⟩, rfl, (fun h => by cases h), by decide, ho_X4_add⟩
theorem tb_X4_addParts : TB[32]? = some (md_X4_addParts, tl_X4_addParts) := rfl
theorem pr_X4_addParts : (parseMethodDescriptor (mY md_X4_addParts).desc).map (fun d => d.parameters.length) = some (mN md_X4_addParts - 1) := by decide +kernel
theorem in_X4_addParts : Jvm.Cond.instanceMethod (mY md_X4_addParts) ∈ WB := (wb_4 20 rfl rfl)
theorem se_X4_addParts : Jvm.Cond.selects (mY md_X4_addParts).cls (mY md_X4_addParts) (mY md_X4_addParts) ∈ WB := (wb_4 21 rfl rfl)
theorem ho_X4_addParts : HOK WB md_X4_addParts := fun _ h => absurd h List.not_mem_nil
theorem mo_X4_addParts : MOK WB md_X4_addParts := ⟨by decide, (wb_4 22 rfl rfl), (wb_1 7 rfl rfl), by decide +kernel, ⟨by decide +kernel, by decide +kernel⟩, rfl, (fun h => by cases h), by decide, ho_X4_addParts⟩
theorem tb_X3_meet : TB[33]? = some (md_X3_meet, tl_X3_meet) := rfl
theorem pr_X3_meet : (parseMethodDescriptor (mY md_X3_meet).desc).map (fun d => d.parameters.length) = some (mN md_X3_meet - 1) := by decide +kernel
theorem in_X3_meet : Jvm.Cond.instanceMethod (mY md_X3_meet) ∈ WB := (wb_4 99 rfl rfl)
theorem se_X3_meet : Jvm.Cond.selects (mY md_X3_meet).cls (mY md_X3_meet) (mY md_X3_meet) ∈ WB := (wb_0 20 rfl rfl)
theorem ho_X3_meet : HOK WB md_X3_meet := fun _ h => absurd h List.not_mem_nil
theorem mo_X3_meet : MOK WB md_X3_meet := ⟨by decide, (wb_4 100 rfl rfl), (wb_1 6 rfl rfl), by decide +kernel, ⟨by decide +kernel, by decide +kernel⟩, rfl, (fun h => by cases h), by decide, ho_X3_meet⟩
theorem tb_X8_settle : TB[34]? = some (md_X8_settle, tl_X8_settle) := rfl
theorem pr_X8_settle : (parseMethodDescriptor (mY md_X8_settle).desc).map (fun d => d.parameters.length) = some (mN md_X8_settle - 1) := by decide +kernel
theorem in_X8_settle : Jvm.Cond.instanceMethod (mY md_X8_settle) ∈ WB := (wb_4 127 rfl rfl)
theorem se_X8_settle : Jvm.Cond.selects (mY md_X8_settle).cls (mY md_X8_settle) (mY md_X8_settle) ∈ WB := (wb_4 128 rfl rfl)
theorem ho_X8_settle : HOK WB md_X8_settle := fun _ h => absurd h List.not_mem_nil
theorem mo_X8_settle : MOK WB md_X8_settle := ⟨by decide, (wb_4 129 rfl rfl), (wb_1 4 rfl rfl), by decide +kernel, ⟨by decide +kernel, by decide +kernel⟩, rfl, (fun h => by cases h), by decide, ho_X8_settle⟩
theorem tb_X17_isEnough : TB[35]? = some (md_X17_isEnough, tl_X17_isEnough) := rfl
theorem pr_X17_isEnough : (parseMethodDescriptor (mY md_X17_isEnough).desc).map (fun d => d.parameters.length) = some (mN md_X17_isEnough - 1) := by decide +kernel
theorem in_X17_isEnough : Jvm.Cond.instanceMethod (mY md_X17_isEnough) ∈ WB := (wb_8 174 rfl rfl)
theorem se_X17_isEnough : Jvm.Cond.selects (mY md_X17_isEnough).cls (mY md_X17_isEnough) (mY md_X17_isEnough) ∈ WB := (wb_0 56 rfl rfl)
theorem ho_X17_isEnough : HOK WB md_X17_isEnough := fun _ h => absurd h List.not_mem_nil
theorem mo_X17_isEnough : MOK WB md_X17_isEnough := ⟨by decide, (wb_8 175 rfl rfl), (wb_1 13 rfl rfl), by decide +kernel, ⟨by decide +kernel, by decide +kernel⟩, rfl, (fun h => by cases h), by decide, ho_X17_isEnough⟩
theorem tb_X17_keeps : TB[36]? = some (md_X17_keeps, tl_X17_keeps) := rfl
theorem pr_X17_keeps : (parseMethodDescriptor (mY md_X17_keeps).desc).map (fun d => d.parameters.length) = some (mN md_X17_keeps - 1) := by decide +kernel
theorem in_X17_keeps : Jvm.Cond.instanceMethod (mY md_X17_keeps) ∈ WB := (wb_8 236 rfl rfl)
theorem se_X17_keeps : Jvm.Cond.selects (mY md_X17_keeps).cls (mY md_X17_keeps) (mY md_X17_keeps) ∈ WB := (wb_0 69 rfl rfl)
theorem ho_X17_keeps : HOK WB md_X17_keeps := fun _ h => absurd h List.not_mem_nil
theorem mo_X17_keeps : MOK WB md_X17_keeps := ⟨by decide, (wb_8 237 rfl rfl), (wb_1 13 rfl rfl), by decide +kernel, ⟨by decide +kernel, by decide +kernel⟩, rfl, (fun h => by cases h), by decide, ho_X17_keeps⟩
theorem tb_X4_addIdentities : TB[37]? = some (md_X4_addIdentities, tl_X4_addIdentities) := rfl
theorem pr_X4_addIdentities : (parseMethodDescriptor (mY md_X4_addIdentities).desc).map (fun d => d.parameters.length) = some (mN md_X4_addIdentities - 1) := by decide +kernel
theorem in_X4_addIdentities : Jvm.Cond.instanceMethod (mY md_X4_addIdentities) ∈ WB := (wb_4 42 rfl rfl)
theorem se_X4_addIdentities : Jvm.Cond.selects (mY md_X4_addIdentities).cls (mY md_X4_addIdentities) (mY md_X4_addIdentities) ∈ WB := (wb_4 43 rfl rfl)
theorem ho_X4_addIdentities : HOK WB md_X4_addIdentities := fun _ h => absurd h List.not_mem_nil
theorem mo_X4_addIdentities : MOK WB md_X4_addIdentities := ⟨by decide, (wb_4 44 rfl rfl), (wb_1 7 rfl rfl), by decide +kernel, ⟨by decide +kernel, by decide +kernel⟩, rfl, (fun h => by cases h), by decide, ho_X4_addIdentities⟩
theorem tb_X16_variables : TB[38]? = some (md_X16_variables, tl_X16_variables) := rfl
theorem pr_X16_variables : (parseMethodDescriptor (mY md_X16_variables).desc).map (fun d => d.parameters.length) = some (mN md_X16_variables - 1) := by decide +kernel
theorem in_X16_variables : Jvm.Cond.instanceMethod (mY md_X16_variables) ∈ WB := (wb_8 164 rfl rfl)
theorem se_X16_variables : Jvm.Cond.selects (mY md_X16_variables).cls (mY md_X16_variables) (mY md_X16_variables) ∈ WB := (wb_8 165 rfl rfl)
theorem ho_X16_variables : HOK WB md_X16_variables := fun _ h => absurd h List.not_mem_nil
theorem mo_X16_variables : MOK WB md_X16_variables := ⟨by decide, (wb_8 166 rfl rfl), (wb_1 17 rfl rfl), by decide +kernel, ⟨by decide +kernel, by decide +kernel⟩, rfl, (fun h => by cases h), by decide, ho_X16_variables⟩
theorem tb_X2_partAt : TB[39]? = some (md_X2_partAt, tl_X2_partAt) := rfl
theorem pr_X2_partAt : (parseMethodDescriptor (mY md_X2_partAt).desc).map (fun d => d.parameters.length) = some (mN md_X2_partAt - 1) := by decide +kernel
theorem in_X2_partAt : Jvm.Cond.instanceMethod (mY md_X2_partAt) ∈ WB := (wb_3 142 rfl rfl)
theorem se_X2_partAt : Jvm.Cond.selects (mY md_X2_partAt).cls (mY md_X2_partAt) (mY md_X2_partAt) ∈ WB := (wb_3 143 rfl rfl)
theorem ho_X2_partAt : HOK WB md_X2_partAt := fun _ h => absurd h List.not_mem_nil
theorem mo_X2_partAt : MOK WB md_X2_partAt := ⟨by decide, (wb_3 144 rfl rfl), (wb_1 5 rfl rfl), by decide +kernel, ⟨by decide +kernel, by decide +kernel⟩, rfl, (fun h => by cases h), by decide, ho_X2_partAt⟩
theorem tb_X17_laid : TB[40]? = some (md_X17_laid, tl_X17_laid) := rfl
theorem pr_X17_laid : (parseMethodDescriptor (mY md_X17_laid).desc).map (fun d => d.parameters.length) = some (mN md_X17_laid - 1) := by decide +kernel
theorem in_X17_laid : Jvm.Cond.instanceMethod (mY md_X17_laid) ∈ WB := (wb_8 228 rfl rfl)
theorem se_X17_laid : Jvm.Cond.selects (mY md_X17_laid).cls (mY md_X17_laid) (mY md_X17_laid) ∈ WB := (wb_0 67 rfl rfl)
theorem ho_X17_laid : HOK WB md_X17_laid := fun _ h => absurd h List.not_mem_nil
theorem mo_X17_laid : MOK WB md_X17_laid := ⟨by decide, (wb_8 229 rfl rfl), (wb_1 13 rfl rfl), by decide +kernel, ⟨by decide +kernel, by decide +kernel⟩, rfl, (fun h => by cases h), by decide, ho_X17_laid⟩
theorem tb_X17_lays : TB[41]? = some (md_X17_lays, tl_X17_lays) := rfl
theorem pr_X17_lays : (parseMethodDescriptor (mY md_X17_lays).desc).map (fun d => d.parameters.length) = some (mN md_X17_lays - 1) := by decide +kernel
theorem in_X17_lays : Jvm.Cond.instanceMethod (mY md_X17_lays) ∈ WB := (wb_8 170 rfl rfl)
theorem se_X17_lays : Jvm.Cond.selects (mY md_X17_lays).cls (mY md_X17_lays) (mY md_X17_lays) ∈ WB := (wb_0 55 rfl rfl)
theorem ho_X17_lays : HOK WB md_X17_lays := fun _ h => absurd h List.not_mem_nil
theorem mo_X17_lays : MOK WB md_X17_lays := ⟨by decide, (wb_8 171 rfl rfl), (wb_1 13 rfl rfl), by decide +kernel, ⟨by decide +kernel, by decide +kernel⟩, rfl, (fun h => by cases h), by decide, ho_X17_lays⟩
theorem tb_X3_solve : TB[42]? = some (md_X3_solve, tl_X3_solve) := rfl
theorem pr_X3_solve : (parseMethodDescriptor (mY md_X3_solve).desc).map (fun d => d.parameters.length) = some (mN md_X3_solve - 1) := by decide +kernel
theorem in_X3_solve : Jvm.Cond.instanceMethod (mY md_X3_solve) ∈ WB := (wb_4 67 rfl rfl)
theorem se_X3_solve : Jvm.Cond.selects (mY md_X3_solve).cls (mY md_X3_solve) (mY md_X3_solve) ∈ WB := (wb_0 16 rfl rfl)
theorem ho_X3_solve : HOK WB md_X3_solve := fun _ h => absurd h List.not_mem_nil
theorem mo_X3_solve : MOK WB md_X3_solve := ⟨by decide, (wb_4 68 rfl rfl), (wb_1 6 rfl rfl), by decide +kernel, ⟨by decide +kernel, by decide +kernel⟩, rfl, (fun h => by cases h), by decide, ho_X3_solve⟩
theorem tb_X17_apply : TB[43]? = some (md_X17_apply, tl_X17_apply) := rfl
theorem pr_X17_apply : (parseMethodDescriptor (mY md_X17_apply).desc).map (fun d => d.parameters.length) = some (mN md_X17_apply - 1) := by decide +kernel
theorem in_X17_apply : Jvm.Cond.instanceMethod (mY md_X17_apply) ∈ WB := (wb_10 154 rfl rfl)
theorem se_X17_apply : Jvm.Cond.selects (mY md_X17_apply).cls (mY md_X17_apply) (mY md_X17_apply) ∈ WB := (wb_10 155 rfl rfl)
theorem ho_X17_apply : HOK WB md_X17_apply := List.forall_mem_cons.mpr ⟨fun h => absurd h (by decide), fun _ h => absurd h List.not_mem_nil⟩
theorem mo_X17_apply : MOK WB md_X17_apply := ⟨by decide, (wb_10 156 rfl rfl), (wb_1 13 rfl rfl), by decide +kernel, ⟨by decide +kernel, by decide +kernel⟩, rfl, (fun h => by cases h), by decide, ho_X17_apply⟩
theorem tb_X3_addDuty : TB[44]? = some (md_X3_addDuty, tl_X3_addDuty) := rfl
theorem pr_X3_addDuty : (parseMethodDescriptor (mY md_X3_addDuty).desc).map (fun d => d.parameters.length) = some (mN md_X3_addDuty - 1) := by decide +kernel
theorem in_X3_addDuty : Jvm.Cond.instanceMethod (mY md_X3_addDuty) ∈ WB := (wb_4 63 rfl rfl)
theorem se_X3_addDuty : Jvm.Cond.selects (mY md_X3_addDuty).cls (mY md_X3_addDuty) (mY md_X3_addDuty) ∈ WB := (wb_0 15 rfl rfl)
theorem ho_X3_addDuty : HOK WB md_X3_addDuty := fun _ h => absurd h List.not_mem_nil
theorem mo_X3_addDuty : MOK WB md_X3_addDuty := ⟨by decide, (wb_4 64 rfl rfl), (wb_1 6 rfl rfl), by decide +kernel, ⟨by decide +kernel, by decide +kernel⟩, rfl, (fun h => by cases h), by decide, ho_X3_addDuty⟩
theorem tb_X3_meetArguments : TB[45]? = some (md_X3_meetArguments, tl_X3_meetArguments) := rfl
theorem pr_X3_meetArguments : (parseMethodDescriptor (mY md_X3_meetArguments).desc).map (fun d => d.parameters.length) = some (mN md_X3_meetArguments - 1) := by decide +kernel
theorem in_X3_meetArguments : Jvm.Cond.instanceMethod (mY md_X3_meetArguments) ∈ WB := (wb_4 108 rfl rfl)
theorem se_X3_meetArguments : Jvm.Cond.selects (mY md_X3_meetArguments).cls (mY md_X3_meetArguments) (mY md_X3_meetArguments) ∈ WB := (wb_0 21 rfl rfl)
theorem ho_X3_meetArguments : HOK WB md_X3_meetArguments := fun _ h => absurd h List.not_mem_nil
theorem mo_X3_meetArguments : MOK WB md_X3_meetArguments := ⟨by decide, (wb_4 109 rfl rfl), (wb_1 6 rfl rfl), by decide +kernel, ⟨by decide +kernel, by decide +kernel⟩, rfl, (fun h => by cases h), by decide, ho_X3_meetArguments⟩
theorem tb_X17_isBeneath : TB[46]? = some (md_X17_isBeneath, tl_X17_isBeneath) := rfl
theorem pr_X17_isBeneath : (parseMethodDescriptor (mY md_X17_isBeneath).desc).map (fun d => d.parameters.length) = some (mN md_X17_isBeneath - 1) := by decide +kernel
theorem in_X17_isBeneath : Jvm.Cond.instanceMethod (mY md_X17_isBeneath) ∈ WB := (wb_8 224 rfl rfl)
theorem se_X17_isBeneath : Jvm.Cond.selects (mY md_X17_isBeneath).cls (mY md_X17_isBeneath) (mY md_X17_isBeneath) ∈ WB := (wb_0 66 rfl rfl)
theorem ho_X17_isBeneath : HOK WB md_X17_isBeneath := fun _ h => absurd h List.not_mem_nil
theorem mo_X17_isBeneath : MOK WB md_X17_isBeneath := ⟨by decide, (wb_8 225 rfl rfl), (wb_1 13 rfl rfl), by decide +kernel, ⟨by decide +kernel, by decide +kernel⟩, rfl, (fun h => by cases h), by decide, ho_X17_isBeneath⟩
theorem tb_X10_apply : TB[47]? = some (md_X10_apply, tl_X10_apply) := rfl
theorem pr_X10_apply : (parseMethodDescriptor (mY md_X10_apply).desc).map (fun d => d.parameters.length) = some (mN md_X10_apply - 1) := by decide +kernel
theorem in_X10_apply : Jvm.Cond.instanceMethod (mY md_X10_apply) ∈ WB := (wb_5 137 rfl rfl)
theorem se_X10_apply : Jvm.Cond.selects (mY md_X10_apply).cls (mY md_X10_apply) (mY md_X10_apply) ∈ WB := (wb_5 138 rfl rfl)
theorem ho_X10_apply : HOK WB md_X10_apply := fun _ h => absurd h List.not_mem_nil
theorem mo_X10_apply : MOK WB md_X10_apply := ⟨by decide, (wb_5 139 rfl rfl), (wb_1 1 rfl rfl), by decide +kernel, ⟨by decide +kernel, by decide +kernel⟩, rfl, (fun h => by cases h), by decide, ho_X10_apply⟩
theorem tb_X7_resultOf : TB[48]? = some (md_X7_resultOf, tl_X7_resultOf) := rfl
theorem pr_X7_resultOf : (parseMethodDescriptor (mY md_X7_resultOf).desc).map (fun d => d.parameters.length) = some (mN md_X7_resultOf - 1) := by decide +kernel
theorem in_X7_resultOf : Jvm.Cond.instanceMethod (mY md_X7_resultOf) ∈ WB := (wb_4 56 rfl rfl)
theorem se_X7_resultOf : Jvm.Cond.selects (mY md_X7_resultOf).cls (mY md_X7_resultOf) (mY md_X7_resultOf) ∈ WB := (wb_4 57 rfl rfl)
theorem ho_X7_resultOf : HOK WB md_X7_resultOf := fun _ h => absurd h List.not_mem_nil
theorem mo_X7_resultOf : MOK WB md_X7_resultOf := ⟨by decide, (wb_4 58 rfl rfl), (wb_1 2 rfl rfl), by decide +kernel, ⟨by decide +kernel, by decide +kernel⟩, rfl, (fun h => by cases h), by decide, ho_X7_resultOf⟩
theorem tb_X17_init : TB[49]? = some (md_X17_init, tl_X17_init) := rfl
theorem pr_X17_init : (parseMethodDescriptor (mY md_X17_init).desc).map (fun d => d.parameters.length) = some (mN md_X17_init - 1) := by decide +kernel
theorem in_X17_init : Jvm.Cond.instanceMethod (mY md_X17_init) ∈ WB := (wb_7 43 rfl rfl)
theorem ho_X17_init : HOK WB md_X17_init := fun _ h => absurd h List.not_mem_nil
theorem mo_X17_init : MOK WB md_X17_init := ⟨by decide, (wb_7 44 rfl rfl), (wb_1 13 rfl rfl), by decide +kernel, ⟨by decide +kernel, by decide +kernel⟩, rfl, (fun _ => rfl), by decide, ho_X17_init⟩
theorem tb_X17_made : TB[50]? = some (md_X17_made, tl_X17_made) := rfl
theorem pr_X17_made : (parseMethodDescriptor (mY md_X17_made).desc).map (fun d => d.parameters.length) = some (mN md_X17_made) := by decide +kernel
theorem st_X17_made : Jvm.Cond.static (mY md_X17_made) ∈ WB := (wb_8 107 rfl rfl)
theorem ho_X17_made : HOK WB md_X17_made := fun _ h => absurd h List.not_mem_nil
theorem mo_X17_made : MOK WB md_X17_made := ⟨by decide, (wb_8 108 rfl rfl), (wb_1 13 rfl rfl), by decide +kernel, ⟨by decide +kernel, by decide +kernel⟩, rfl, (fun h => by cases h), by decide, ho_X17_made⟩
theorem tb_Jx4a65c_get_915e3 : TB[51]? = some (md_Jx4a65c_get_915e3, tl_Jx4a65c_get_915e3) := rfl
theorem pr_Jx4a65c_get_915e3 : (parseMethodDescriptor (mY md_Jx4a65c_get_915e3).desc).map (fun d => d.parameters.length) = some (mN md_Jx4a65c_get_915e3 - 1) := by decide +kernel
theorem in_Jx4a65c_get_915e3 : Jvm.Cond.instanceMethod (mY md_Jx4a65c_get_915e3) ∈ WB := (wb_8 151 rfl rfl)
theorem ho_Jx4a65c_get_915e3 : HOK WB md_Jx4a65c_get_915e3 := fun _ h => absurd h List.not_mem_nil
theorem mo_Jx4a65c_get_915e3 : MOK WB md_Jx4a65c_get_915e3 := ⟨by decide, (wb_8 153 rfl rfl), (wb_1 16 rfl rfl), by decide +kernel, ⟨by decide +kernel, by decide +kernel⟩, rfl, (fun h => by cases h), by decide, ho_Jx4a65c_get_915e3⟩
theorem tb_J3_checkIndex_8e157 : TB[52]? = some (md_J3_checkIndex_8e157, tl_J3_checkIndex_8e157) := rfl
theorem pr_J3_checkIndex_8e157 : (parseMethodDescriptor (mY md_J3_checkIndex_8e157).desc).map (fun d => d.parameters.length) = some (mN md_J3_checkIndex_8e157) := by decide +kernel
theorem st_J3_checkIndex_8e157 : Jvm.Cond.static (mY md_J3_checkIndex_8e157) ∈ WB := (wb_8 53 rfl rfl)
theorem ho_J3_checkIndex_8e157 : HOK WB md_J3_checkIndex_8e157 := fun _ h => absurd h List.not_mem_nil
theorem mo_J3_checkIndex_8e157 : MOK WB md_J3_checkIndex_8e157 := ⟨by decide, (wb_8 54 rfl rfl), (wb_1 28 rfl rfl), by decide +kernel, ⟨by decide +kernel, by decide +kernel⟩, rfl, (fun h => by cases h), by decide, ho_J3_checkIndex_8e157⟩
theorem tb_X6_decide : TB[53]? = some (md_X6_decide, tl_X6_decide) := rfl
theorem pr_X6_decide : (parseMethodDescriptor (mY md_X6_decide).desc).map (fun d => d.parameters.length) = some (mN md_X6_decide - 1) := by decide +kernel
theorem in_X6_decide : Jvm.Cond.instanceMethod (mY md_X6_decide) ∈ WB := (wb_4 116 rfl rfl)
theorem se_X6_decide : Jvm.Cond.selects (mY md_X6_decide).cls (mY md_X6_decide) (mY md_X6_decide) ∈ WB := (wb_0 22 rfl rfl)
theorem ho_X6_decide : HOK WB md_X6_decide := fun _ h => absurd h List.not_mem_nil
theorem mo_X6_decide : MOK WB md_X6_decide := ⟨by decide, (wb_4 117 rfl rfl), (wb_1 8 rfl rfl), by decide +kernel, ⟨by decide +kernel, by decide +kernel⟩, rfl, (fun h => by cases h), by decide, ho_X6_decide⟩
theorem tb_J15_checkIndex_7cf53 : TB[54]? = some (md_J15_checkIndex_7cf53, tl_J15_checkIndex_7cf53) := rfl
theorem pr_J15_checkIndex_7cf53 : (parseMethodDescriptor (mY md_J15_checkIndex_7cf53).desc).map (fun d => d.parameters.length) = some (mN md_J15_checkIndex_7cf53) := by decide +kernel
theorem st_J15_checkIndex_7cf53 : Jvm.Cond.static (mY md_J15_checkIndex_7cf53) ∈ WB := (wb_8 50 rfl rfl)
theorem ho_J15_checkIndex_7cf53 : HOK WB md_J15_checkIndex_7cf53 := fun _ h => absurd h List.not_mem_nil
theorem mo_J15_checkIndex_7cf53 : MOK WB md_J15_checkIndex_7cf53 := ⟨by decide, (wb_8 51 rfl rfl), (wb_1 27 rfl rfl), by decide +kernel, ⟨by decide +kernel, by decide +kernel⟩, rfl, (fun h => by cases h), by decide, ho_J15_checkIndex_7cf53⟩
theorem tb_Jx4a65c_fastRemove_b59b0 : TB[55]? = some (md_Jx4a65c_fastRemove_b59b0, tl_Jx4a65c_fastRemove_b59b0) := rfl
theorem pr_Jx4a65c_fastRemove_b59b0 : (parseMethodDescriptor (mY md_Jx4a65c_fastRemove_b59b0).desc).map (fun d => d.parameters.length) = some (mN md_Jx4a65c_fastRemove_b59b0 - 1) := by decide +kernel
theorem in_Jx4a65c_fastRemove_b59b0 : Jvm.Cond.instanceMethod (mY md_Jx4a65c_fastRemove_b59b0) ∈ WB := (wb_8 57 rfl rfl)
theorem se_Jx4a65c_fastRemove_b59b0 : Jvm.Cond.selects (mY md_Jx4a65c_fastRemove_b59b0).cls (mY md_Jx4a65c_fastRemove_b59b0) (mY md_Jx4a65c_fastRemove_b59b0) ∈ WB := (wb_0 44 rfl rfl)
theorem ho_Jx4a65c_fastRemove_b59b0 : HOK WB md_Jx4a65c_fastRemove_b59b0 := fun _ h => absurd h List.not_mem_nil
theorem mo_Jx4a65c_fastRemove_b59b0 : MOK WB md_Jx4a65c_fastRemove_b59b0 := ⟨by decide, (wb_8 58 rfl rfl), (wb_1 16 rfl rfl), by decide +kernel, ⟨by decide +kernel, by decide +kernel⟩, rfl, (fun h => by cases h), by decide, ho_Jx4a65c_fastRemove_b59b0⟩
theorem tb_X8_giveNothing : TB[56]? = some (md_X8_giveNothing, tl_X8_giveNothing) := rfl
theorem pr_X8_giveNothing : (parseMethodDescriptor (mY md_X8_giveNothing).desc).map (fun d => d.parameters.length) = some (mN md_X8_giveNothing - 1) := by decide +kernel
theorem in_X8_giveNothing : Jvm.Cond.instanceMethod (mY md_X8_giveNothing) ∈ WB := (wb_3 133 rfl rfl)
theorem se_X8_giveNothing : Jvm.Cond.selects (mY md_X8_giveNothing).cls (mY md_X8_giveNothing) (mY md_X8_giveNothing) ∈ WB := (wb_3 134 rfl rfl)
theorem ho_X8_giveNothing : HOK WB md_X8_giveNothing := fun _ h => absurd h List.not_mem_nil
theorem mo_X8_giveNothing : MOK WB md_X8_giveNothing := ⟨by decide, (wb_3 135 rfl rfl), (wb_1 4 rfl rfl), by decide +kernel, ⟨by decide +kernel, by decide +kernel⟩, rfl, (fun h => by cases h), by decide, ho_X8_giveNothing⟩
theorem tb_X16_init_ : TB[57]? = some (md_X16_init_, tl_X16_init_) := rfl
theorem pr_X16_init_ : (parseMethodDescriptor (mY md_X16_init_).desc).map (fun d => d.parameters.length) = some (mN md_X16_init_ - 1) := by decide +kernel
theorem in_X16_init_ : Jvm.Cond.instanceMethod (mY md_X16_init_) ∈ WB := (wb_8 127 rfl rfl)
theorem ho_X16_init_ : HOK WB md_X16_init_ := fun _ h => absurd h List.not_mem_nil
theorem mo_X16_init_ : MOK WB md_X16_init_ := ⟨by decide, (wb_8 128 rfl rfl), (wb_1 17 rfl rfl), by decide +kernel, ⟨by decide +kernel, by decide +kernel⟩, rfl, (fun _ => rfl), by decide, ho_X16_init_⟩
theorem tb_Jx4a65c_elementData_915e3 : TB[58]? = some (md_Jx4a65c_elementData_915e3, tl_Jx4a65c_elementData_915e3) := rfl
theorem pr_Jx4a65c_elementData_915e3 : (parseMethodDescriptor (mY md_Jx4a65c_elementData_915e3).desc).map (fun d => d.parameters.length) = some (mN md_Jx4a65c_elementData_915e3 - 1) := by decide +kernel
theorem in_Jx4a65c_elementData_915e3 : Jvm.Cond.instanceMethod (mY md_Jx4a65c_elementData_915e3) ∈ WB := (wb_8 155 rfl rfl)
theorem se_Jx4a65c_elementData_915e3 : Jvm.Cond.selects (mY md_Jx4a65c_elementData_915e3).cls (mY md_Jx4a65c_elementData_915e3) (mY md_Jx4a65c_elementData_915e3) ∈ WB := (wb_8 156 rfl rfl)
theorem ho_Jx4a65c_elementData_915e3 : HOK WB md_Jx4a65c_elementData_915e3 := fun _ h => absurd h List.not_mem_nil
theorem mo_Jx4a65c_elementData_915e3 : MOK WB md_Jx4a65c_elementData_915e3 := ⟨by decide, (wb_8 157 rfl rfl), (wb_1 16 rfl rfl), by decide +kernel, ⟨by decide +kernel, by decide +kernel⟩, rfl, (fun h => by cases h), by decide, ho_Jx4a65c_elementData_915e3⟩
theorem tb_Jx4a65c_remove_915e3 : TB[59]? = some (md_Jx4a65c_remove_915e3, tl_Jx4a65c_remove_915e3) := rfl
theorem pr_Jx4a65c_remove_915e3 : (parseMethodDescriptor (mY md_Jx4a65c_remove_915e3).desc).map (fun d => d.parameters.length) = some (mN md_Jx4a65c_remove_915e3 - 1) := by decide +kernel
theorem in_Jx4a65c_remove_915e3 : Jvm.Cond.instanceMethod (mY md_Jx4a65c_remove_915e3) ∈ WB := (wb_8 46 rfl rfl)
theorem ho_Jx4a65c_remove_915e3 : HOK WB md_Jx4a65c_remove_915e3 := fun _ h => absurd h List.not_mem_nil
theorem mo_Jx4a65c_remove_915e3 : MOK WB md_Jx4a65c_remove_915e3 := ⟨by decide, (wb_8 48 rfl rfl), (wb_1 16 rfl rfl), by decide +kernel, ⟨by decide +kernel, by decide +kernel⟩, rfl, (fun h => by cases h), by decide, ho_Jx4a65c_remove_915e3⟩
theorem tb_X17_put : TB[60]? = some (md_X17_put, tl_X17_put) := rfl
theorem pr_X17_put : (parseMethodDescriptor (mY md_X17_put).desc).map (fun d => d.parameters.length) = some (mN md_X17_put - 1) := by decide +kernel
theorem in_X17_put : Jvm.Cond.instanceMethod (mY md_X17_put) ∈ WB := (wb_8 95 rfl rfl)
theorem se_X17_put : Jvm.Cond.selects (mY md_X17_put).cls (mY md_X17_put) (mY md_X17_put) ∈ WB := (wb_0 49 rfl rfl)
theorem ho_X17_put : HOK WB md_X17_put := fun _ h => absurd h List.not_mem_nil
theorem mo_X17_put : MOK WB md_X17_put := ⟨by decide, (wb_8 96 rfl rfl), (wb_1 13 rfl rfl), by decide +kernel, ⟨by decide +kernel, by decide +kernel⟩, rfl, (fun h => by cases h), by decide, ho_X17_put⟩
theorem tb_X16_init : TB[61]? = some (md_X16_init, tl_X16_init) := rfl
theorem pr_X16_init : (parseMethodDescriptor (mY md_X16_init).desc).map (fun d => d.parameters.length) = some (mN md_X16_init - 1) := by decide +kernel
theorem in_X16_init : Jvm.Cond.instanceMethod (mY md_X16_init) ∈ WB := (wb_7 76 rfl rfl)
theorem ho_X16_init : HOK WB md_X16_init := fun _ h => absurd h List.not_mem_nil
theorem mo_X16_init : MOK WB md_X16_init := ⟨by decide, (wb_7 77 rfl rfl), (wb_1 17 rfl rfl), by decide +kernel, ⟨by decide +kernel, by decide +kernel⟩, rfl, (fun _ => rfl), by decide, ho_X16_init⟩
theorem tb_X10_push : TB[62]? = some (md_X10_push, tl_X10_push) := rfl
theorem pr_X10_push : (parseMethodDescriptor (mY md_X10_push).desc).map (fun d => d.parameters.length) = some (mN md_X10_push - 1) := by decide +kernel
theorem in_X10_push : Jvm.Cond.instanceMethod (mY md_X10_push) ∈ WB := (wb_5 127 rfl rfl)
theorem se_X10_push : Jvm.Cond.selects (mY md_X10_push).cls (mY md_X10_push) (mY md_X10_push) ∈ WB := (wb_0 26 rfl rfl)
theorem ho_X10_push : HOK WB md_X10_push := fun _ h => absurd h List.not_mem_nil
theorem mo_X10_push : MOK WB md_X10_push := ⟨by decide, (wb_5 128 rfl rfl), (wb_1 1 rfl rfl), by decide +kernel, ⟨by decide +kernel, by decide +kernel⟩, rfl, (fun h => by cases h), by decide, ho_X10_push⟩
theorem tb_X8_startAnew : TB[63]? = some (md_X8_startAnew, tl_X8_startAnew) := rfl
theorem pr_X8_startAnew : (parseMethodDescriptor (mY md_X8_startAnew).desc).map (fun d => d.parameters.length) = some (mN md_X8_startAnew - 1) := by decide +kernel
theorem in_X8_startAnew : Jvm.Cond.instanceMethod (mY md_X8_startAnew) ∈ WB := (wb_3 129 rfl rfl)
theorem se_X8_startAnew : Jvm.Cond.selects (mY md_X8_startAnew).cls (mY md_X8_startAnew) (mY md_X8_startAnew) ∈ WB := (wb_3 130 rfl rfl)
theorem ho_X8_startAnew : HOK WB md_X8_startAnew := fun _ h => absurd h List.not_mem_nil
theorem mo_X8_startAnew : MOK WB md_X8_startAnew := ⟨by decide, (wb_3 131 rfl rfl), (wb_1 4 rfl rfl), by decide +kernel, ⟨by decide +kernel, by decide +kernel⟩, rfl, (fun h => by cases h), by decide, ho_X8_startAnew⟩
theorem tb_Jx4a65c_add_9ea2d : TB[64]? = some (md_Jx4a65c_add_9ea2d, tl_Jx4a65c_add_9ea2d) := rfl
theorem pr_Jx4a65c_add_9ea2d : (parseMethodDescriptor (mY md_Jx4a65c_add_9ea2d).desc).map (fun d => d.parameters.length) = some (mN md_Jx4a65c_add_9ea2d - 1) := by decide +kernel
theorem in_Jx4a65c_add_9ea2d : Jvm.Cond.instanceMethod (mY md_Jx4a65c_add_9ea2d) ∈ WB := (wb_9 15 rfl rfl)
theorem ho_Jx4a65c_add_9ea2d : HOK WB md_Jx4a65c_add_9ea2d := fun _ h => absurd h List.not_mem_nil
theorem mo_Jx4a65c_add_9ea2d : MOK WB md_Jx4a65c_add_9ea2d := ⟨by decide, (wb_9 17 rfl rfl), (wb_1 16 rfl rfl), by decide +kernel, ⟨by decide +kernel, by decide +kernel⟩, rfl, (fun h => by cases h), by decide, ho_Jx4a65c_add_9ea2d⟩
theorem tb_Jx4a65c_add_72be8 : TB[65]? = some (md_Jx4a65c_add_72be8, tl_Jx4a65c_add_72be8) := rfl
theorem pr_Jx4a65c_add_72be8 : (parseMethodDescriptor (mY md_Jx4a65c_add_72be8).desc).map (fun d => d.parameters.length) = some (mN md_Jx4a65c_add_72be8 - 1) := by decide +kernel
theorem in_Jx4a65c_add_72be8 : Jvm.Cond.instanceMethod (mY md_Jx4a65c_add_72be8) ∈ WB := (wb_9 20 rfl rfl)
theorem se_Jx4a65c_add_72be8 : Jvm.Cond.selects (mY md_Jx4a65c_add_72be8).cls (mY md_Jx4a65c_add_72be8) (mY md_Jx4a65c_add_72be8) ∈ WB := (wb_0 72 rfl rfl)
theorem ho_Jx4a65c_add_72be8 : HOK WB md_Jx4a65c_add_72be8 := fun _ h => absurd h List.not_mem_nil
theorem mo_Jx4a65c_add_72be8 : MOK WB md_Jx4a65c_add_72be8 := ⟨by decide, (wb_9 21 rfl rfl), (wb_1 16 rfl rfl), by decide +kernel, ⟨by decide +kernel, by decide +kernel⟩, rfl, (fun h => by cases h), by decide, ho_Jx4a65c_add_72be8⟩
theorem tb_X8_store : TB[66]? = some (md_X8_store, tl_X8_store) := rfl
theorem pr_X8_store : (parseMethodDescriptor (mY md_X8_store).desc).map (fun d => d.parameters.length) = some (mN md_X8_store - 1) := by decide +kernel
theorem in_X8_store : Jvm.Cond.instanceMethod (mY md_X8_store) ∈ WB := (wb_4 173 rfl rfl)
theorem se_X8_store : Jvm.Cond.selects (mY md_X8_store).cls (mY md_X8_store) (mY md_X8_store) ∈ WB := (wb_4 174 rfl rfl)
theorem ho_X8_store : HOK WB md_X8_store := fun _ h => absurd h List.not_mem_nil
theorem mo_X8_store : MOK WB md_X8_store := ⟨by decide, (wb_4 175 rfl rfl), (wb_1 4 rfl rfl), by decide +kernel, ⟨by decide +kernel, by decide +kernel⟩, rfl, (fun h => by cases h), by decide, ho_X8_store⟩
theorem tb_X17_operator : TB[67]? = some (md_X17_operator, tl_X17_operator) := rfl
theorem pr_X17_operator : (parseMethodDescriptor (mY md_X17_operator).desc).map (fun d => d.parameters.length) = some (mN md_X17_operator - 1) := by decide +kernel
theorem in_X17_operator : Jvm.Cond.instanceMethod (mY md_X17_operator) ∈ WB := (wb_10 142 rfl rfl)
theorem se_X17_operator : Jvm.Cond.selects (mY md_X17_operator).cls (mY md_X17_operator) (mY md_X17_operator) ∈ WB := (wb_10 143 rfl rfl)
theorem ho_X17_operator : HOK WB md_X17_operator := fun _ h => absurd h List.not_mem_nil
theorem mo_X17_operator : MOK WB md_X17_operator := ⟨by decide, (wb_10 144 rfl rfl), (wb_1 13 rfl rfl), by decide +kernel, ⟨by decide +kernel, by decide +kernel⟩, rfl, (fun h => by cases h), by decide, ho_X17_operator⟩
theorem tb_X10_stackAt : TB[68]? = some (md_X10_stackAt, tl_X10_stackAt) := rfl
theorem pr_X10_stackAt : (parseMethodDescriptor (mY md_X10_stackAt).desc).map (fun d => d.parameters.length) = some (mN md_X10_stackAt) := by decide +kernel
theorem st_X10_stackAt : Jvm.Cond.static (mY md_X10_stackAt) ∈ WB := (wb_5 130 rfl rfl)
theorem ho_X10_stackAt : HOK WB md_X10_stackAt := fun _ h => absurd h List.not_mem_nil
theorem mo_X10_stackAt : MOK WB md_X10_stackAt := ⟨by decide, (wb_5 131 rfl rfl), (wb_1 1 rfl rfl), by decide +kernel, ⟨by decide +kernel, by decide +kernel⟩, rfl, (fun h => by cases h), by decide, ho_X10_stackAt⟩
theorem tb_X17_isHeld : TB[69]? = some (md_X17_isHeld, tl_X17_isHeld) := rfl
theorem pr_X17_isHeld : (parseMethodDescriptor (mY md_X17_isHeld).desc).map (fun d => d.parameters.length) = some (mN md_X17_isHeld - 1) := by decide +kernel
theorem in_X17_isHeld : Jvm.Cond.instanceMethod (mY md_X17_isHeld) ∈ WB := (wb_9 3 rfl rfl)
theorem se_X17_isHeld : Jvm.Cond.selects (mY md_X17_isHeld).cls (mY md_X17_isHeld) (mY md_X17_isHeld) ∈ WB := (wb_0 70 rfl rfl)
theorem ho_X17_isHeld : HOK WB md_X17_isHeld := fun _ h => absurd h List.not_mem_nil
theorem mo_X17_isHeld : MOK WB md_X17_isHeld := ⟨by decide, (wb_9 4 rfl rfl), (wb_1 13 rfl rfl), by decide +kernel, ⟨by decide +kernel, by decide +kernel⟩, rfl, (fun h => by cases h), by decide, ho_X17_isHeld⟩
theorem tb_X17_count : TB[70]? = some (md_X17_count, tl_X17_count) := rfl
theorem pr_X17_count : (parseMethodDescriptor (mY md_X17_count).desc).map (fun d => d.parameters.length) = some (mN md_X17_count) := by decide +kernel
theorem st_X17_count : Jvm.Cond.static (mY md_X17_count) ∈ WB := (wb_8 200 rfl rfl)
theorem ho_X17_count : HOK WB md_X17_count := fun _ h => absurd h List.not_mem_nil
theorem mo_X17_count : MOK WB md_X17_count := ⟨by decide, (wb_8 201 rfl rfl), (wb_1 13 rfl rfl), by decide +kernel, ⟨by decide +kernel, by decide +kernel⟩, rfl, (fun h => by cases h), by decide, ho_X17_count⟩
theorem tb_X8_init : TB[71]? = some (md_X8_init, tl_X8_init) := rfl
theorem pr_X8_init : (parseMethodDescriptor (mY md_X8_init).desc).map (fun d => d.parameters.length) = some (mN md_X8_init - 1) := by decide +kernel
theorem in_X8_init : Jvm.Cond.instanceMethod (mY md_X8_init) ∈ WB := (wb_1 112 rfl rfl)
theorem ho_X8_init : HOK WB md_X8_init := fun _ h => absurd h List.not_mem_nil
theorem mo_X8_init : MOK WB md_X8_init := ⟨by decide, (wb_1 113 rfl rfl), (wb_1 4 rfl rfl), by decide +kernel, ⟨by decide +kernel, by decide +kernel⟩, rfl, (fun _ => rfl), by decide, ho_X8_init⟩
theorem tb_X17_isIn : TB[72]? = some (md_X17_isIn, tl_X17_isIn) := rfl
theorem pr_X17_isIn : (parseMethodDescriptor (mY md_X17_isIn).desc).map (fun d => d.parameters.length) = some (mN md_X17_isIn) := by decide +kernel
theorem st_X17_isIn : Jvm.Cond.static (mY md_X17_isIn) ∈ WB := (wb_9 105 rfl rfl)
theorem ho_X17_isIn : HOK WB md_X17_isIn := fun _ h => absurd h List.not_mem_nil
theorem mo_X17_isIn : MOK WB md_X17_isIn := ⟨by decide, (wb_9 106 rfl rfl), (wb_1 13 rfl rfl), by decide +kernel, ⟨by decide +kernel, by decide +kernel⟩, rfl, (fun h => by cases h), by decide, ho_X17_isIn⟩
theorem tb_L_apply : TB[73]? = some (md_L_apply, tl_L_apply) := rfl
theorem pr_L_apply : (parseMethodDescriptor (mY md_L_apply).desc).map (fun d => d.parameters.length) = some (mN md_L_apply) := by decide +kernel
theorem st_L_apply : Jvm.Cond.static (mY md_L_apply) ∈ WB := (wb_5 134 rfl rfl)
theorem ho_L_apply : HOK WB md_L_apply := List.forall_mem_cons.mpr ⟨fun _ => ⟨by decide, (wb_5 20 rfl rfl)⟩, List.forall_mem_cons.mpr ⟨fun _ => ⟨by decide, (wb_4 183 rfl rfl)⟩, fun _ h => absurd h List.not_mem_nil⟩⟩
theorem mo_L_apply : MOK WB md_L_apply := ⟨by decide, (wb_5 135 rfl rfl), (wb_1 0 rfl rfl), by decide +kernel, ⟨by decide +kernel, by decide +kernel⟩, rfl, (fun h => by cases h), by decide, ho_L_apply⟩
theorem tb_X17_pop : TB[74]? = some (md_X17_pop, tl_X17_pop) := rfl
theorem pr_X17_pop : (parseMethodDescriptor (mY md_X17_pop).desc).map (fun d => d.parameters.length) = some (mN md_X17_pop - 1) := by decide +kernel
theorem in_X17_pop : Jvm.Cond.instanceMethod (mY md_X17_pop) ∈ WB := (wb_8 29 rfl rfl)
theorem se_X17_pop : Jvm.Cond.selects (mY md_X17_pop).cls (mY md_X17_pop) (mY md_X17_pop) ∈ WB := (wb_0 43 rfl rfl)
theorem ho_X17_pop : HOK WB md_X17_pop := fun _ h => absurd h List.not_mem_nil
theorem mo_X17_pop : MOK WB md_X17_pop := ⟨by decide, (wb_8 30 rfl rfl), (wb_1 13 rfl rfl), by decide +kernel, ⟨by decide +kernel, by decide +kernel⟩, rfl, (fun h => by cases h), by decide, ho_X17_pop⟩
theorem tb_X7_hasOperator : TB[75]? = some (md_X7_hasOperator, tl_X7_hasOperator) := rfl
theorem pr_X7_hasOperator : (parseMethodDescriptor (mY md_X7_hasOperator).desc).map (fun d => d.parameters.length) = some (mN md_X7_hasOperator - 1) := by decide +kernel
theorem in_X7_hasOperator : Jvm.Cond.instanceMethod (mY md_X7_hasOperator) ∈ WB := (wb_5 92 rfl rfl)
theorem se_X7_hasOperator : Jvm.Cond.selects (mY md_X7_hasOperator).cls (mY md_X7_hasOperator) (mY md_X7_hasOperator) ∈ WB := (wb_5 93 rfl rfl)
theorem ho_X7_hasOperator : HOK WB md_X7_hasOperator := fun _ h => absurd h List.not_mem_nil
theorem mo_X7_hasOperator : MOK WB md_X7_hasOperator := ⟨by decide, (wb_5 94 rfl rfl), (wb_1 2 rfl rfl), by decide +kernel, ⟨by decide +kernel, by decide +kernel⟩, rfl, (fun h => by cases h), by decide, ho_X7_hasOperator⟩
theorem tb_X7_init : TB[76]? = some (md_X7_init, tl_X7_init) := rfl
theorem pr_X7_init : (parseMethodDescriptor (mY md_X7_init).desc).map (fun d => d.parameters.length) = some (mN md_X7_init - 1) := by decide +kernel
theorem in_X7_init : Jvm.Cond.instanceMethod (mY md_X7_init) ∈ WB := (wb_1 46 rfl rfl)
theorem ho_X7_init : HOK WB md_X7_init := fun _ h => absurd h List.not_mem_nil
theorem mo_X7_init : MOK WB md_X7_init := ⟨by decide, (wb_1 47 rfl rfl), (wb_1 2 rfl rfl), by decide +kernel, ⟨by decide +kernel, by decide +kernel⟩, rfl, (fun _ => rfl), by decide, ho_X7_init⟩
theorem tb_X10_tell : TB[77]? = some (md_X10_tell, tl_X10_tell) := rfl
theorem pr_X10_tell : (parseMethodDescriptor (mY md_X10_tell).desc).map (fun d => d.parameters.length) = some (mN md_X10_tell - 1) := by decide +kernel
theorem in_X10_tell : Jvm.Cond.instanceMethod (mY md_X10_tell) ∈ WB := (wb_5 230 rfl rfl)
theorem se_X10_tell : Jvm.Cond.selects (mY md_X10_tell).cls (mY md_X10_tell) (mY md_X10_tell) ∈ WB := (wb_5 231 rfl rfl)
theorem ho_X10_tell : HOK WB md_X10_tell := fun _ h => absurd h List.not_mem_nil
theorem mo_X10_tell : MOK WB md_X10_tell := ⟨by decide, (wb_5 232 rfl rfl), (wb_1 1 rfl rfl), by decide +kernel, ⟨by decide +kernel, by decide +kernel⟩, rfl, (fun h => by cases h), by decide, ho_X10_tell⟩
theorem tb_X17_tell : TB[78]? = some (md_X17_tell, tl_X17_tell) := rfl
theorem pr_X17_tell : (parseMethodDescriptor (mY md_X17_tell).desc).map (fun d => d.parameters.length) = some (mN md_X17_tell - 1) := by decide +kernel
theorem in_X17_tell : Jvm.Cond.instanceMethod (mY md_X17_tell) ∈ WB := (wb_10 229 rfl rfl)
theorem se_X17_tell : Jvm.Cond.selects (mY md_X17_tell).cls (mY md_X17_tell) (mY md_X17_tell) ∈ WB := (wb_10 230 rfl rfl)
theorem ho_X17_tell : HOK WB md_X17_tell := fun _ h => absurd h List.not_mem_nil
theorem mo_X17_tell : MOK WB md_X17_tell := ⟨by decide, (wb_10 231 rfl rfl), (wb_1 13 rfl rfl), by decide +kernel, ⟨by decide +kernel, by decide +kernel⟩, rfl, (fun h => by cases h), by decide, ho_X17_tell⟩
theorem tb_X10_init : TB[79]? = some (md_X10_init, tl_X10_init) := rfl
theorem pr_X10_init : (parseMethodDescriptor (mY md_X10_init).desc).map (fun d => d.parameters.length) = some (mN md_X10_init - 1) := by decide +kernel
theorem in_X10_init : Jvm.Cond.instanceMethod (mY md_X10_init) ∈ WB := (wb_1 38 rfl rfl)
theorem ho_X10_init : HOK WB md_X10_init := fun _ h => absurd h List.not_mem_nil
theorem mo_X10_init : MOK WB md_X10_init := ⟨by decide, (wb_1 39 rfl rfl), (wb_1 1 rfl rfl), by decide +kernel, ⟨by decide +kernel, by decide +kernel⟩, rfl, (fun _ => rfl), by decide, ho_X10_init⟩
theorem tb_X7_addOperator : TB[80]? = some (md_X7_addOperator, tl_X7_addOperator) := rfl
theorem pr_X7_addOperator : (parseMethodDescriptor (mY md_X7_addOperator).desc).map (fun d => d.parameters.length) = some (mN md_X7_addOperator - 1) := by decide +kernel
theorem in_X7_addOperator : Jvm.Cond.instanceMethod (mY md_X7_addOperator) ∈ WB := (wb_5 101 rfl rfl)
theorem se_X7_addOperator : Jvm.Cond.selects (mY md_X7_addOperator).cls (mY md_X7_addOperator) (mY md_X7_addOperator) ∈ WB := (wb_5 102 rfl rfl)
theorem ho_X7_addOperator : HOK WB md_X7_addOperator := fun _ h => absurd h List.not_mem_nil
theorem mo_X7_addOperator : MOK WB md_X7_addOperator := ⟨by decide, (wb_5 103 rfl rfl), (wb_1 2 rfl rfl), by decide +kernel, ⟨by decide +kernel, by decide +kernel⟩, rfl, (fun h => by cases h), by decide, ho_X7_addOperator⟩
theorem tb_X10_operator : TB[81]? = some (md_X10_operator, tl_X10_operator) := rfl
theorem pr_X10_operator : (parseMethodDescriptor (mY md_X10_operator).desc).map (fun d => d.parameters.length) = some (mN md_X10_operator - 1) := by decide +kernel
theorem in_X10_operator : Jvm.Cond.instanceMethod (mY md_X10_operator) ∈ WB := (wb_5 88 rfl rfl)
theorem se_X10_operator : Jvm.Cond.selects (mY md_X10_operator).cls (mY md_X10_operator) (mY md_X10_operator) ∈ WB := (wb_5 89 rfl rfl)
theorem ho_X10_operator : HOK WB md_X10_operator := fun _ h => absurd h List.not_mem_nil
theorem mo_X10_operator : MOK WB md_X10_operator := ⟨by decide, (wb_5 90 rfl rfl), (wb_1 1 rfl rfl), by decide +kernel, ⟨by decide +kernel, by decide +kernel⟩, rfl, (fun h => by cases h), by decide, ho_X10_operator⟩
theorem tb_X4_init : TB[82]? = some (md_X4_init, tl_X4_init) := rfl
theorem pr_X4_init : (parseMethodDescriptor (mY md_X4_init).desc).map (fun d => d.parameters.length) = some (mN md_X4_init - 1) := by decide +kernel
theorem in_X4_init : Jvm.Cond.instanceMethod (mY md_X4_init) ∈ WB := (wb_1 215 rfl rfl)
theorem ho_X4_init : HOK WB md_X4_init := fun _ h => absurd h List.not_mem_nil
theorem mo_X4_init : MOK WB md_X4_init := ⟨by decide, (wb_1 216 rfl rfl), (wb_1 7 rfl rfl), by decide +kernel, ⟨by decide +kernel, by decide +kernel⟩, rfl, (fun _ => rfl), by decide, ho_X4_init⟩
theorem tb_X3_init : TB[83]? = some (md_X3_init, tl_X3_init) := rfl
theorem pr_X3_init : (parseMethodDescriptor (mY md_X3_init).desc).map (fun d => d.parameters.length) = some (mN md_X3_init - 1) := by decide +kernel
theorem in_X3_init : Jvm.Cond.instanceMethod (mY md_X3_init) ∈ WB := (wb_1 209 rfl rfl)
theorem ho_X3_init : HOK WB md_X3_init := fun _ h => absurd h List.not_mem_nil
theorem mo_X3_init : MOK WB md_X3_init := ⟨by decide, (wb_1 210 rfl rfl), (wb_1 6 rfl rfl), by decide +kernel, ⟨by decide +kernel, by decide +kernel⟩, rfl, (fun _ => rfl), by decide, ho_X3_init⟩
theorem tb_J6_bitCount_0f7a4 : TB[84]? = some (md_J6_bitCount_0f7a4, tl_J6_bitCount_0f7a4) := rfl
theorem pr_J6_bitCount_0f7a4 : (parseMethodDescriptor (mY md_J6_bitCount_0f7a4).desc).map (fun d => d.parameters.length) = some (mN md_J6_bitCount_0f7a4) := by decide +kernel
theorem st_J6_bitCount_0f7a4 : Jvm.Cond.static (mY md_J6_bitCount_0f7a4) ∈ WB := (wb_4 27 rfl rfl)
theorem ho_J6_bitCount_0f7a4 : HOK WB md_J6_bitCount_0f7a4 := fun _ h => absurd h List.not_mem_nil
theorem mo_J6_bitCount_0f7a4 : MOK WB md_J6_bitCount_0f7a4 := ⟨by decide, (wb_4 28 rfl rfl), (wb_1 30 rfl rfl), by decide +kernel, ⟨by decide +kernel, by decide +kernel⟩, rfl, (fun h => by cases h), by decide, ho_J6_bitCount_0f7a4⟩
theorem tb_X0_init : TB[85]? = some (md_X0_init, tl_X0_init) := rfl
theorem pr_X0_init : (parseMethodDescriptor (mY md_X0_init).desc).map (fun d => d.parameters.length) = some (mN md_X0_init - 1) := by decide +kernel
theorem in_X0_init : Jvm.Cond.instanceMethod (mY md_X0_init) ∈ WB := (wb_3 32 rfl rfl)
theorem ho_X0_init : HOK WB md_X0_init := fun _ h => absurd h List.not_mem_nil
theorem mo_X0_init : MOK WB md_X0_init := ⟨by decide, (wb_3 33 rfl rfl), (wb_1 12 rfl rfl), by decide +kernel, ⟨by decide +kernel, by decide +kernel⟩, rfl, (fun _ => rfl), by decide, ho_X0_init⟩
theorem tb_Jxc12de_init_da8c8 : TB[86]? = some (md_Jxc12de_init_da8c8, tl_Jxc12de_init_da8c8) := rfl
theorem pr_Jxc12de_init_da8c8 : (parseMethodDescriptor (mY md_Jxc12de_init_da8c8).desc).map (fun d => d.parameters.length) = some (mN md_Jxc12de_init_da8c8 - 1) := by decide +kernel
theorem in_Jxc12de_init_da8c8 : Jvm.Cond.instanceMethod (mY md_Jxc12de_init_da8c8) ∈ WB := (wb_7 52 rfl rfl)
theorem ho_Jxc12de_init_da8c8 : HOK WB md_Jxc12de_init_da8c8 := fun _ h => absurd h List.not_mem_nil
theorem mo_Jxc12de_init_da8c8 : MOK WB md_Jxc12de_init_da8c8 := ⟨by decide, (wb_7 53 rfl rfl), (wb_1 15 rfl rfl), by decide +kernel, ⟨by decide +kernel, by decide +kernel⟩, rfl, (fun _ => rfl), by decide, ho_Jxc12de_init_da8c8⟩
theorem tb_Jx4a65c_init_da8c8 : TB[87]? = some (md_Jx4a65c_init_da8c8, tl_Jx4a65c_init_da8c8) := rfl
theorem pr_Jx4a65c_init_da8c8 : (parseMethodDescriptor (mY md_Jx4a65c_init_da8c8).desc).map (fun d => d.parameters.length) = some (mN md_Jx4a65c_init_da8c8 - 1) := by decide +kernel
theorem in_Jx4a65c_init_da8c8 : Jvm.Cond.instanceMethod (mY md_Jx4a65c_init_da8c8) ∈ WB := (wb_7 49 rfl rfl)
theorem ho_Jx4a65c_init_da8c8 : HOK WB md_Jx4a65c_init_da8c8 := fun _ h => absurd h List.not_mem_nil
theorem mo_Jx4a65c_init_da8c8 : MOK WB md_Jx4a65c_init_da8c8 := ⟨by decide, (wb_7 50 rfl rfl), (wb_1 16 rfl rfl), by decide +kernel, ⟨by decide +kernel, by decide +kernel⟩, rfl, (fun _ => rfl), by decide, ho_Jx4a65c_init_da8c8⟩
theorem tb_Jx4a65c_grow_92f84 : TB[88]? = some (md_Jx4a65c_grow_92f84, tl_Jx4a65c_grow_92f84) := rfl
theorem pr_Jx4a65c_grow_92f84 : (parseMethodDescriptor (mY md_Jx4a65c_grow_92f84).desc).map (fun d => d.parameters.length) = some (mN md_Jx4a65c_grow_92f84 - 1) := by decide +kernel
theorem in_Jx4a65c_grow_92f84 : Jvm.Cond.instanceMethod (mY md_Jx4a65c_grow_92f84) ∈ WB := (wb_9 28 rfl rfl)
theorem se_Jx4a65c_grow_92f84 : Jvm.Cond.selects (mY md_Jx4a65c_grow_92f84).cls (mY md_Jx4a65c_grow_92f84) (mY md_Jx4a65c_grow_92f84) ∈ WB := (wb_0 74 rfl rfl)
theorem ho_Jx4a65c_grow_92f84 : HOK WB md_Jx4a65c_grow_92f84 := fun _ h => absurd h List.not_mem_nil
theorem mo_Jx4a65c_grow_92f84 : MOK WB md_Jx4a65c_grow_92f84 := ⟨by decide, (wb_9 29 rfl rfl), (wb_1 16 rfl rfl), by decide +kernel, ⟨by decide +kernel, by decide +kernel⟩, rfl, (fun h => by cases h), by decide, ho_Jx4a65c_grow_92f84⟩
theorem tb_X6_init : TB[89]? = some (md_X6_init, tl_X6_init) := rfl
theorem pr_X6_init : (parseMethodDescriptor (mY md_X6_init).desc).map (fun d => d.parameters.length) = some (mN md_X6_init - 1) := by decide +kernel
theorem in_X6_init : Jvm.Cond.instanceMethod (mY md_X6_init) ∈ WB := (wb_2 92 rfl rfl)
theorem ho_X6_init : HOK WB md_X6_init := fun _ h => absurd h List.not_mem_nil
theorem mo_X6_init : MOK WB md_X6_init := ⟨by decide, (wb_2 93 rfl rfl), (wb_1 8 rfl rfl), by decide +kernel, ⟨by decide +kernel, by decide +kernel⟩, rfl, (fun _ => rfl), by decide, ho_X6_init⟩
theorem tb_X2_add : TB[90]? = some (md_X2_add, tl_X2_add) := rfl
theorem pr_X2_add : (parseMethodDescriptor (mY md_X2_add).desc).map (fun d => d.parameters.length) = some (mN md_X2_add - 1) := by decide +kernel
theorem in_X2_add : Jvm.Cond.instanceMethod (mY md_X2_add) ∈ WB := (wb_4 177 rfl rfl)
theorem se_X2_add : Jvm.Cond.selects (mY md_X2_add).cls (mY md_X2_add) (mY md_X2_add) ∈ WB := (wb_4 178 rfl rfl)
theorem ho_X2_add : HOK WB md_X2_add := fun _ h => absurd h List.not_mem_nil
theorem mo_X2_add : MOK WB md_X2_add := ⟨by decide, (wb_4 179 rfl rfl), (wb_1 5 rfl rfl), by decide +kernel, ⟨by decide +kernel, by decide +kernel⟩, rfl, (fun h => by cases h), by decide, ho_X2_add⟩
theorem tb_L_operator : TB[91]? = some (md_L_operator, tl_L_operator) := rfl
theorem pr_L_operator : (parseMethodDescriptor (mY md_L_operator).desc).map (fun d => d.parameters.length) = some (mN md_L_operator) := by decide +kernel
theorem st_L_operator : Jvm.Cond.static (mY md_L_operator) ∈ WB := (wb_5 85 rfl rfl)
theorem ho_L_operator : HOK WB md_L_operator := List.forall_mem_cons.mpr ⟨fun _ => ⟨by decide, (wb_5 20 rfl rfl)⟩, List.forall_mem_cons.mpr ⟨fun _ => ⟨by decide, (wb_5 55 rfl rfl)⟩, List.forall_mem_cons.mpr ⟨fun _ => ⟨by decide, (wb_4 183 rfl rfl)⟩, fun _ h => absurd h List.not_mem_nil⟩⟩⟩
theorem mo_L_operator : MOK WB md_L_operator := ⟨by decide, (wb_5 86 rfl rfl), (wb_1 0 rfl rfl), by decide +kernel, ⟨by decide +kernel, by decide +kernel⟩, rfl, (fun h => by cases h), by decide, ho_L_operator⟩
theorem tb_X1_init : TB[92]? = some (md_X1_init, tl_X1_init) := rfl
theorem pr_X1_init : (parseMethodDescriptor (mY md_X1_init).desc).map (fun d => d.parameters.length) = some (mN md_X1_init - 1) := by decide +kernel
theorem in_X1_init : Jvm.Cond.instanceMethod (mY md_X1_init) ∈ WB := (wb_2 198 rfl rfl)
theorem ho_X1_init : HOK WB md_X1_init := fun _ h => absurd h List.not_mem_nil
theorem mo_X1_init : MOK WB md_X1_init := ⟨by decide, (wb_2 199 rfl rfl), (wb_1 10 rfl rfl), by decide +kernel, ⟨by decide +kernel, by decide +kernel⟩, rfl, (fun _ => rfl), by decide, ho_X1_init⟩
theorem tb_X5_init : TB[93]? = some (md_X5_init, tl_X5_init) := rfl
theorem pr_X5_init : (parseMethodDescriptor (mY md_X5_init).desc).map (fun d => d.parameters.length) = some (mN md_X5_init - 1) := by decide +kernel
theorem in_X5_init : Jvm.Cond.instanceMethod (mY md_X5_init) ∈ WB := (wb_2 236 rfl rfl)
theorem ho_X5_init : HOK WB md_X5_init := fun _ h => absurd h List.not_mem_nil
theorem mo_X5_init : MOK WB md_X5_init := ⟨by decide, (wb_2 237 rfl rfl), (wb_1 11 rfl rfl), by decide +kernel, ⟨by decide +kernel, by decide +kernel⟩, rfl, (fun _ => rfl), by decide, ho_X5_init⟩
theorem tb_X10_reduce : TB[94]? = some (md_X10_reduce, tl_X10_reduce) := rfl
theorem pr_X10_reduce : (parseMethodDescriptor (mY md_X10_reduce).desc).map (fun d => d.parameters.length) = some (mN md_X10_reduce - 1) := by decide +kernel
theorem in_X10_reduce : Jvm.Cond.instanceMethod (mY md_X10_reduce) ∈ WB := (wb_6 4 rfl rfl)
theorem se_X10_reduce : Jvm.Cond.selects (mY md_X10_reduce).cls (mY md_X10_reduce) (mY md_X10_reduce) ∈ WB := (wb_6 5 rfl rfl)
theorem ho_X10_reduce : HOK WB md_X10_reduce := fun _ h => absurd h List.not_mem_nil
theorem mo_X10_reduce : MOK WB md_X10_reduce := ⟨by decide, (wb_6 6 rfl rfl), (wb_1 1 rfl rfl), by decide +kernel, ⟨by decide +kernel, by decide +kernel⟩, rfl, (fun h => by cases h), by decide, ho_X10_reduce⟩
theorem tb_X17_reduce : TB[95]? = some (md_X17_reduce, tl_X17_reduce) := rfl
theorem pr_X17_reduce : (parseMethodDescriptor (mY md_X17_reduce).desc).map (fun d => d.parameters.length) = some (mN md_X17_reduce - 1) := by decide +kernel
theorem in_X17_reduce : Jvm.Cond.instanceMethod (mY md_X17_reduce) ∈ WB := (wb_10 237 rfl rfl)
theorem se_X17_reduce : Jvm.Cond.selects (mY md_X17_reduce).cls (mY md_X17_reduce) (mY md_X17_reduce) ∈ WB := (wb_10 238 rfl rfl)
theorem ho_X17_reduce : HOK WB md_X17_reduce := List.forall_mem_cons.mpr ⟨fun h => absurd h (by decide), fun _ h => absurd h List.not_mem_nil⟩
theorem mo_X17_reduce : MOK WB md_X17_reduce := ⟨by decide, (wb_10 239 rfl rfl), (wb_1 13 rfl rfl), by decide +kernel, ⟨by decide +kernel, by decide +kernel⟩, rfl, (fun h => by cases h), by decide, ho_X17_reduce⟩
theorem tb_X9_init : TB[96]? = some (md_X9_init, tl_X9_init) := rfl
theorem pr_X9_init : (parseMethodDescriptor (mY md_X9_init).desc).map (fun d => d.parameters.length) = some (mN md_X9_init - 1) := by decide +kernel
theorem in_X9_init : Jvm.Cond.instanceMethod (mY md_X9_init) ∈ WB := (wb_2 138 rfl rfl)
theorem ho_X9_init : HOK WB md_X9_init := fun _ h => absurd h List.not_mem_nil
theorem mo_X9_init : MOK WB md_X9_init := ⟨by decide, (wb_2 139 rfl rfl), (wb_1 9 rfl rfl), by decide +kernel, ⟨by decide +kernel, by decide +kernel⟩, rfl, (fun _ => rfl), by decide, ho_X9_init⟩
theorem tb_Jxa1e45_init_da8c8 : TB[97]? = some (md_Jxa1e45_init_da8c8, tl_Jxa1e45_init_da8c8) := rfl
theorem pr_Jxa1e45_init_da8c8 : (parseMethodDescriptor (mY md_Jxa1e45_init_da8c8).desc).map (fun d => d.parameters.length) = some (mN md_Jxa1e45_init_da8c8 - 1) := by decide +kernel
theorem in_Jxa1e45_init_da8c8 : Jvm.Cond.instanceMethod (mY md_Jxa1e45_init_da8c8) ∈ WB := (wb_7 55 rfl rfl)
theorem ho_Jxa1e45_init_da8c8 : HOK WB md_Jxa1e45_init_da8c8 := fun _ h => absurd h List.not_mem_nil
theorem mo_Jxa1e45_init_da8c8 : MOK WB md_Jxa1e45_init_da8c8 := ⟨by decide, (wb_7 56 rfl rfl), (wb_1 14 rfl rfl), by decide +kernel, ⟨by decide +kernel, by decide +kernel⟩, rfl, (fun _ => rfl), by decide, ho_Jxa1e45_init_da8c8⟩
theorem tb_X17_canTell : TB[98]? = some (md_X17_canTell, tl_X17_canTell) := rfl
theorem pr_X17_canTell : (parseMethodDescriptor (mY md_X17_canTell).desc).map (fun d => d.parameters.length) = some (mN md_X17_canTell) := by decide +kernel
theorem st_X17_canTell : Jvm.Cond.static (mY md_X17_canTell) ∈ WB := (wb_10 60 rfl rfl)
theorem ho_X17_canTell : HOK WB md_X17_canTell := fun _ h => absurd h List.not_mem_nil
theorem mo_X17_canTell : MOK WB md_X17_canTell := ⟨by decide, (wb_10 61 rfl rfl), (wb_1 13 rfl rfl), by decide +kernel, ⟨by decide +kernel, by decide +kernel⟩, rfl, (fun h => by cases h), by decide, ho_X17_canTell⟩
theorem tb_X2_init : TB[99]? = some (md_X2_init, tl_X2_init) := rfl
theorem pr_X2_init : (parseMethodDescriptor (mY md_X2_init).desc).map (fun d => d.parameters.length) = some (mN md_X2_init - 1) := by decide +kernel
theorem in_X2_init : Jvm.Cond.instanceMethod (mY md_X2_init) ∈ WB := (wb_1 177 rfl rfl)
theorem ho_X2_init : HOK WB md_X2_init := fun _ h => absurd h List.not_mem_nil
theorem mo_X2_init : MOK WB md_X2_init := ⟨by decide, (wb_1 178 rfl rfl), (wb_1 5 rfl rfl), by decide +kernel, ⟨by decide +kernel, by decide +kernel⟩, rfl, (fun _ => rfl), by decide, ho_X2_init⟩
theorem tb_Jx4a65c_grow_d5877 : TB[100]? = some (md_Jx4a65c_grow_d5877, tl_Jx4a65c_grow_d5877) := rfl
theorem pr_Jx4a65c_grow_d5877 : (parseMethodDescriptor (mY md_Jx4a65c_grow_d5877).desc).map (fun d => d.parameters.length) = some (mN md_Jx4a65c_grow_d5877 - 1) := by decide +kernel
theorem in_Jx4a65c_grow_d5877 : Jvm.Cond.instanceMethod (mY md_Jx4a65c_grow_d5877) ∈ WB := (wb_9 24 rfl rfl)
theorem se_Jx4a65c_grow_d5877 : Jvm.Cond.selects (mY md_Jx4a65c_grow_d5877).cls (mY md_Jx4a65c_grow_d5877) (mY md_Jx4a65c_grow_d5877) ∈ WB := (wb_0 73 rfl rfl)
theorem ho_Jx4a65c_grow_d5877 : HOK WB md_Jx4a65c_grow_d5877 := fun _ h => absurd h List.not_mem_nil
theorem mo_Jx4a65c_grow_d5877 : MOK WB md_Jx4a65c_grow_d5877 := ⟨by decide, (wb_9 25 rfl rfl), (wb_1 16 rfl rfl), by decide +kernel, ⟨by decide +kernel, by decide +kernel⟩, rfl, (fun h => by cases h), by decide, ho_Jx4a65c_grow_d5877⟩
theorem tb_X8_canBeLeft : TB[101]? = some (md_X8_canBeLeft, tl_X8_canBeLeft) := rfl
theorem pr_X8_canBeLeft : (parseMethodDescriptor (mY md_X8_canBeLeft).desc).map (fun d => d.parameters.length) = some (mN md_X8_canBeLeft - 1) := by decide +kernel
theorem in_X8_canBeLeft : Jvm.Cond.instanceMethod (mY md_X8_canBeLeft) ∈ WB := (wb_4 159 rfl rfl)
theorem se_X8_canBeLeft : Jvm.Cond.selects (mY md_X8_canBeLeft).cls (mY md_X8_canBeLeft) (mY md_X8_canBeLeft) ∈ WB := (wb_4 160 rfl rfl)
theorem ho_X8_canBeLeft : HOK WB md_X8_canBeLeft := fun _ h => absurd h List.not_mem_nil
theorem mo_X8_canBeLeft : MOK WB md_X8_canBeLeft := ⟨by decide, (wb_4 161 rfl rfl), (wb_1 4 rfl rfl), by decide +kernel, ⟨by decide +kernel, by decide +kernel⟩, rfl, (fun h => by cases h), by decide, ho_X8_canBeLeft⟩
theorem tb_L_tell : TB[102]? = some (md_L_tell, tl_L_tell) := rfl
theorem pr_L_tell : (parseMethodDescriptor (mY md_L_tell).desc).map (fun d => d.parameters.length) = some (mN md_L_tell) := by decide +kernel
theorem st_L_tell : Jvm.Cond.static (mY md_L_tell) ∈ WB := (wb_5 227 rfl rfl)
theorem ho_L_tell : HOK WB md_L_tell := List.forall_mem_cons.mpr ⟨fun _ => ⟨by decide, (wb_4 183 rfl rfl)⟩, fun _ h => absurd h List.not_mem_nil⟩
theorem mo_L_tell : MOK WB md_L_tell := ⟨by decide, (wb_5 228 rfl rfl), (wb_1 0 rfl rfl), by decide +kernel, ⟨by decide +kernel, by decide +kernel⟩, rfl, (fun h => by cases h), by decide, ho_L_tell⟩
theorem tb_X17_top : TB[103]? = some (md_X17_top, tl_X17_top) := rfl
theorem pr_X17_top : (parseMethodDescriptor (mY md_X17_top).desc).map (fun d => d.parameters.length) = some (mN md_X17_top - 1) := by decide +kernel
theorem in_X17_top : Jvm.Cond.instanceMethod (mY md_X17_top) ∈ WB := (wb_9 117 rfl rfl)
theorem se_X17_top : Jvm.Cond.selects (mY md_X17_top).cls (mY md_X17_top) (mY md_X17_top) ∈ WB := (wb_0 79 rfl rfl)
theorem ho_X17_top : HOK WB md_X17_top := fun _ h => absurd h List.not_mem_nil
theorem mo_X17_top : MOK WB md_X17_top := ⟨by decide, (wb_9 118 rfl rfl), (wb_1 13 rfl rfl), by decide +kernel, ⟨by decide +kernel, by decide +kernel⟩, rfl, (fun h => by cases h), by decide, ho_X17_top⟩
theorem tb_X17_othersOf : TB[104]? = some (md_X17_othersOf, tl_X17_othersOf) := rfl
theorem pr_X17_othersOf : (parseMethodDescriptor (mY md_X17_othersOf).desc).map (fun d => d.parameters.length) = some (mN md_X17_othersOf) := by decide +kernel
theorem st_X17_othersOf : Jvm.Cond.static (mY md_X17_othersOf) ∈ WB := (wb_10 103 rfl rfl)
theorem ho_X17_othersOf : HOK WB md_X17_othersOf := fun _ h => absurd h List.not_mem_nil
theorem mo_X17_othersOf : MOK WB md_X17_othersOf := ⟨by decide, (wb_10 104 rfl rfl), (wb_1 13 rfl rfl), by decide +kernel, ⟨by decide +kernel, by decide +kernel⟩, rfl, (fun h => by cases h), by decide, ho_X17_othersOf⟩
theorem tb_X8_canBePattern : TB[105]? = some (md_X8_canBePattern, tl_X8_canBePattern) := rfl
theorem pr_X8_canBePattern : (parseMethodDescriptor (mY md_X8_canBePattern).desc).map (fun d => d.parameters.length) = some (mN md_X8_canBePattern - 1) := by decide +kernel
theorem in_X8_canBePattern : Jvm.Cond.instanceMethod (mY md_X8_canBePattern) ∈ WB := (wb_4 163 rfl rfl)
theorem se_X8_canBePattern : Jvm.Cond.selects (mY md_X8_canBePattern).cls (mY md_X8_canBePattern) (mY md_X8_canBePattern) ∈ WB := (wb_4 164 rfl rfl)
theorem ho_X8_canBePattern : HOK WB md_X8_canBePattern := fun _ h => absurd h List.not_mem_nil
theorem mo_X8_canBePattern : MOK WB md_X8_canBePattern := ⟨by decide, (wb_4 165 rfl rfl), (wb_1 4 rfl rfl), by decide +kernel, ⟨by decide +kernel, by decide +kernel⟩, rfl, (fun h => by cases h), by decide, ho_X8_canBePattern⟩
theorem tb_L_reduce : TB[106]? = some (md_L_reduce, tl_L_reduce) := rfl
theorem pr_L_reduce : (parseMethodDescriptor (mY md_L_reduce).desc).map (fun d => d.parameters.length) = some (mN md_L_reduce) := by decide +kernel
theorem st_L_reduce : Jvm.Cond.static (mY md_L_reduce) ∈ WB := (wb_6 1 rfl rfl)
theorem ho_L_reduce : HOK WB md_L_reduce := List.forall_mem_cons.mpr ⟨fun _ => ⟨by decide, (wb_4 183 rfl rfl)⟩, fun _ h => absurd h List.not_mem_nil⟩
theorem mo_L_reduce : MOK WB md_L_reduce := ⟨by decide, (wb_6 2 rfl rfl), (wb_1 0 rfl rfl), by decide +kernel, ⟨by decide +kernel, by decide +kernel⟩, rfl, (fun h => by cases h), by decide, ho_L_reduce⟩
theorem tb_X17_isPattern : TB[107]? = some (md_X17_isPattern, tl_X17_isPattern) := rfl
theorem pr_X17_isPattern : (parseMethodDescriptor (mY md_X17_isPattern).desc).map (fun d => d.parameters.length) = some (mN md_X17_isPattern) := by decide +kernel
theorem st_X17_isPattern : Jvm.Cond.static (mY md_X17_isPattern) ∈ WB := (wb_9 120 rfl rfl)
theorem ho_X17_isPattern : HOK WB md_X17_isPattern := fun _ h => absurd h List.not_mem_nil
theorem mo_X17_isPattern : MOK WB md_X17_isPattern := ⟨by decide, (wb_9 121 rfl rfl), (wb_1 13 rfl rfl), by decide +kernel, ⟨by decide +kernel, by decide +kernel⟩, rfl, (fun h => by cases h), by decide, ho_X17_isPattern⟩
theorem tb_X10_topAt : TB[108]? = some (md_X10_topAt, tl_X10_topAt) := rfl
theorem pr_X10_topAt : (parseMethodDescriptor (mY md_X10_topAt).desc).map (fun d => d.parameters.length) = some (mN md_X10_topAt - 1) := by decide +kernel
theorem in_X10_topAt : Jvm.Cond.instanceMethod (mY md_X10_topAt) ∈ WB := (wb_5 172 rfl rfl)
theorem se_X10_topAt : Jvm.Cond.selects (mY md_X10_topAt).cls (mY md_X10_topAt) (mY md_X10_topAt) ∈ WB := (wb_0 27 rfl rfl)
theorem ho_X10_topAt : HOK WB md_X10_topAt := fun _ h => absurd h List.not_mem_nil
theorem mo_X10_topAt : MOK WB md_X10_topAt := ⟨by decide, (wb_5 173 rfl rfl), (wb_1 1 rfl rfl), by decide +kernel, ⟨by decide +kernel, by decide +kernel⟩, rfl, (fun h => by cases h), by decide, ho_X10_topAt⟩
theorem tb_Jx4a65c_isEmpty_aae02 : TB[109]? = some (md_Jx4a65c_isEmpty_aae02, tl_Jx4a65c_isEmpty_aae02) := rfl
theorem pr_Jx4a65c_isEmpty_aae02 : (parseMethodDescriptor (mY md_Jx4a65c_isEmpty_aae02).desc).map (fun d => d.parameters.length) = some (mN md_Jx4a65c_isEmpty_aae02 - 1) := by decide +kernel
theorem in_Jx4a65c_isEmpty_aae02 : Jvm.Cond.instanceMethod (mY md_Jx4a65c_isEmpty_aae02) ∈ WB := (wb_8 15 rfl rfl)
theorem ho_Jx4a65c_isEmpty_aae02 : HOK WB md_Jx4a65c_isEmpty_aae02 := fun _ h => absurd h List.not_mem_nil
theorem mo_Jx4a65c_isEmpty_aae02 : MOK WB md_Jx4a65c_isEmpty_aae02 := ⟨by decide, (wb_8 17 rfl rfl), (wb_1 16 rfl rfl), by decide +kernel, ⟨by decide +kernel, by decide +kernel⟩, rfl, (fun h => by cases h), by decide, ho_Jx4a65c_isEmpty_aae02⟩
theorem tb_X13_init : TB[110]? = some (md_X13_init, tl_X13_init) := rfl
theorem pr_X13_init : (parseMethodDescriptor (mY md_X13_init).desc).map (fun d => d.parameters.length) = some (mN md_X13_init - 1) := by decide +kernel
theorem in_X13_init : Jvm.Cond.instanceMethod (mY md_X13_init) ∈ WB := (wb_10 68 rfl rfl)
theorem ho_X13_init : HOK WB md_X13_init := fun _ h => absurd h List.not_mem_nil
theorem mo_X13_init : MOK WB md_X13_init := ⟨by decide, (wb_10 69 rfl rfl), (wb_1 31 rfl rfl), by decide +kernel, ⟨by decide +kernel, by decide +kernel⟩, rfl, (fun _ => rfl), by decide, ho_X13_init⟩
theorem tb_X15_init : TB[111]? = some (md_X15_init, tl_X15_init) := rfl
theorem pr_X15_init : (parseMethodDescriptor (mY md_X15_init).desc).map (fun d => d.parameters.length) = some (mN md_X15_init - 1) := by decide +kernel
theorem in_X15_init : Jvm.Cond.instanceMethod (mY md_X15_init) ∈ WB := (wb_8 67 rfl rfl)
theorem ho_X15_init : HOK WB md_X15_init := fun _ h => absurd h List.not_mem_nil
theorem mo_X15_init : MOK WB md_X15_init := ⟨by decide, (wb_8 68 rfl rfl), (wb_1 32 rfl rfl), by decide +kernel, ⟨by decide +kernel, by decide +kernel⟩, rfl, (fun _ => rfl), by decide, ho_X15_init⟩
