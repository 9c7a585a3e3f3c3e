/-! rows of the tables, kind by kind -/
def plainI (i : Instr) : Bool :=
  match i with
  | .return_ | .areturn | .getfield _ | .putfield _ | .getstatic _ | .newarray _ | .anewarray _ | .new _ | .tableswitch _ _ _ _ | .invokespecial _ | .invokestatic _ | .invokevirtual _ | .invokeinterface _ _ => false
  | _ => true
section IO
variable {WB AD : List Jvm.Cond} {SR : List (String × Nat × String)} {FW : List (String × MethodName × MethodName)} {TB : List MT} {md : MD} {pc x y z : Nat} {fk : List Nat}
theorem io_plain {ins : Instr} (hd : decode (mC md) pc = .ok (ins, ilen ins)) (h : plainI ins = true) : IOK WB AD SR FW TB md pc (ins, x, y, z, fk) := by
  cases ins <;> first | exact ⟨hd, trivial, trivial⟩ | cases (show false = true from h)
theorem io_void (hd : decode (mC md) pc = .ok (.return_, 1)) (h : mR md = none) : IOK WB AD SR FW TB md pc (.return_, x, y, z, fk) := ⟨hd, h, trivial⟩
theorem io_aret (hd : decode (mC md) pc = .ok (.areturn, 1)) (h : rtk (mR md) = true) : IOK WB AD SR FW TB md pc (.areturn, x, y, z, fk) := ⟨hd, h, trivial⟩
theorem io_get {idx : Nat} (hd : decode (mC md) pc = .ok (.getfield idx, 3)) (h : FOK WB (mO md) idx x y) : IOK WB AD SR FW TB md pc (.getfield idx, x, y, z, fk) := ⟨hd, h, trivial⟩
theorem io_put {idx : Nat} (hd : decode (mC md) pc = .ok (.putfield idx, 3)) (h : FOK WB (mO md) idx x y) (h2 : POK (mO md) (mI md) x y z) : IOK WB AD SR FW TB md pc (.putfield idx, x, y, z, fk) := ⟨hd, ⟨h, h2⟩, trivial⟩
theorem io_gets {idx : Nat} (hd : decode (mC md) pc = .ok (.getstatic idx, 3)) (h : Jvm.Cond.fieldLink (mO md) idx ALn "DEFAULTCAPACITY_EMPTY_ELEMENTDATA" "[Ljava/lang/Object;" ∈ WB) : IOK WB AD SR FW TB md pc (.getstatic idx, x, y, z, fk) := ⟨hd, h, trivial⟩
theorem io_newa {aty : ArrayType} (hd : decode (mC md) pc = .ok (.newarray aty, 2)) (h : (x = 0 ∧ aty = .int) ∨ (x = 1 ∧ aty = .boolean) ∨ (x = 2 ∧ aty = .long)) (h2 : Jvm.Cond.arrayClass (newarray.typeOf aty) ∈ WB) : IOK WB AD SR FW TB md pc (.newarray aty, x, y, z, fk) := ⟨hd, ⟨h, h2⟩, trivial⟩
theorem io_newq {idx : Nat} (hd : decode (mC md) pc = .ok (.anewarray idx, 3)) (h : x < 2) (h2 : Jvm.Cond.classLink (mO md) idx (ecls x) ∈ WB) : IOK WB AD SR FW TB md pc (.anewarray idx, x, y, z, fk) := ⟨hd, ⟨h, h2⟩, trivial⟩
theorem io_new {idx : Nat} (hd : decode (mC md) pc = .ok (.new idx, 3)) (h : Nat.ble 100 x = false) (h2 : NOK WB (mO md) idx x fk) : IOK WB AD SR FW TB md pc (.new idx, x, y, z, fk) := by
  refine ⟨hd, ?_, trivial⟩
  show (match Nat.ble 100 x with
    | true => THK WB AD SR md pc (x - 100)
    | false => NOK WB (mO md) idx x fk)
  rw [h]
  exact h2
theorem io_thr {idx : Nat} (h : Nat.ble 100 x = true) (h2 : THK WB AD SR md pc (x - 100)) (hd : decode (mC md) pc = .ok (.new idx, 3)) : IOK WB AD SR FW TB md pc (.new idx, x, y, z, fk) := by
  refine ⟨hd, ?_, trivial⟩
  show (match Nat.ble 100 x with
    | true => THK WB AD SR md pc (x - 100)
    | false => NOK WB (mO md) idx x fk)
  rw [h]
  exact h2
theorem io_thx {idx : Nat} (ec : Nat) (hx : x = ec + 100) (h2 : THK WB AD SR md pc ec) (hd : decode (mC md) pc = .ok (.new idx, 3)) : IOK WB AD SR FW TB md pc (.new idx, x, y, z, fk) := by
  subst hx
  have e : ec + 100 - 100 = ec := by omega
  exact io_thr (Nat.ble_eq_true_of_le (by omega)) (by rw [e]; exact h2) hd
theorem thk_mk (own : String) (ho : mO md = own) (idx is ic ec : Nat) (text : String) (w : Bool) (h1 : (own, is, text) ∈ SR) (h2 : ec < 3) (h3 : decode (mC md) pc = .ok (.new idx, 3)) (h4 : decode (mC md) (pc + 3) = .ok (.dup, 1))
    (h5 : match w with
      | false => decode (mC md) (pc + 4) = .ok (.ldc is, 2) ∧ decode (mC md) (pc + 6) = .ok (.invokespecial ic, 3) ∧ decode (mC md) (pc + 9) = .ok (.athrow, 1)
      | true => decode (mC md) (pc + 4) = .ok (.ldc_w is, 3) ∧ decode (mC md) (pc + 7) = .ok (.invokespecial ic, 3) ∧ decode (mC md) (pc + 10) = .ok (.athrow, 1))
    (h6 : Jvm.Cond.classLink own idx (ename ec) ∈ WB) (h7 : Jvm.Cond.initialized (ename ec) ∈ WB) (h8 : ∀ v ∈ vx_atS own ic (ename ec) XN, v ∈ WB ∨ v ∈ AD) (h9 : mH md = []) : THK WB AD SR md pc ec := by
  subst ho
  exact ⟨idx, is, ic, text, w, h1, h2, h3, h4, h5, h6, h7, h8, h9⟩
theorem io_tsw {d lo hi : Int} {offs : Array Int} (hd : ∃ n, decode (mC md) pc = .ok (.tableswitch d lo hi offs, n)) : IOK WB AD SR FW TB md pc (.tableswitch d lo hi offs, x, y, z, fk) := ⟨hd, trivial, trivial⟩
theorem io_obj {idx : Nat} (hd : decode (mC md) pc = .ok (.invokespecial idx, 3)) (h1 : Jvm.Cond.methodLink (mO md) idx objectInit ∈ WB) (h2 : Jvm.Cond.instanceMethod objectInit ∈ WB) (h3 : Jvm.Cond.code objectInit ⟨#[0xb1]⟩ 1 none ∈ WB) : IOK WB AD SR FW TB md pc (.invokespecial idx, 1000, y, z, fk) := ⟨hd, trivial, Or.inl ⟨rfl, h1, h2, h3⟩⟩
theorem io_copy {idx : Nat} (hd : decode (mC md) pc = .ok (.invokestatic idx, 3)) (h1 : Jvm.Cond.methodLink (mO md) idx arraycopyName ∈ WB) (h2 : Jvm.Cond.native arraycopyName ∈ WB) (h3 : Jvm.Cond.static arraycopyName ∈ WB) (h4 : Jvm.Cond.initialized "java/lang/System" ∈ WB) : IOK WB AD SR FW TB md pc (.invokestatic idx, 1000, y, z, fk) := ⟨hd, trivial, Or.inl ⟨rfl, h1, h2, h3, h4⟩⟩
theorem io_max {idx : Nat} (hd : decode (mC md) pc = .ok (.invokestatic idx, 3)) (h1 : Jvm.Cond.methodLink (mO md) idx Lib.Math.max.name ∈ WB) (h2 : Jvm.Cond.static Lib.Math.max.name ∈ WB) (h3 : Jvm.Cond.initialized "java/lang/Math" ∈ WB) (h4 : Jvm.Cond.code Lib.Math.max.name Lib.Math.max.code 2 (some .int) ∈ WB) : IOK WB AD SR FW TB md pc (.invokestatic idx, 1001, y, z, fk) := ⟨hd, trivial, Or.inr (Or.inl ⟨rfl, h1, h2, h3, h4⟩)⟩
theorem io_spec {idx : Nat} {mt : MT} (hd : decode (mC md) pc = .ok (.invokespecial idx, 3)) (ht : TB[x]? = some mt) (h1 : Jvm.Cond.methodLink (mO md) idx (mY mt.1) ∈ WB) (h2 : Jvm.Cond.instanceMethod (mY mt.1) ∈ WB) (h3 : (mY mt.1).name = "<init>") (h4 : mR mt.1 = none) (h5 : mH mt.1 = []) (h6 : (parseMethodDescriptor (mY mt.1).desc).map (fun d => d.parameters.length) = some (mN mt.1 - 1)) (h7 : 0 < mN mt.1) : IOK WB AD SR FW TB md pc (.invokespecial idx, x, y, z, fk) := ⟨hd, trivial, Or.inr (Or.inr ⟨mt, ht, h1, h2, h3, h4, h5, h6, h7⟩)⟩
theorem io_stat {idx : Nat} {mt : MT} (hd : decode (mC md) pc = .ok (.invokestatic idx, 3)) (ht : TB[x]? = some mt) (h1 : Jvm.Cond.methodLink (mO md) idx (mY mt.1) ∈ WB) (h2 : Jvm.Cond.static (mY mt.1) ∈ WB) (h6 : (parseMethodDescriptor (mY mt.1).desc).map (fun d => d.parameters.length) = some (mN mt.1)) : IOK WB AD SR FW TB md pc (.invokestatic idx, x, y, z, fk) := ⟨hd, trivial, Or.inr (Or.inr (Or.inr ⟨mt, ht, h1, h2, h6⟩))⟩
theorem io_virt {idx : Nat} {mt : MT} (hd : decode (mC md) pc = .ok (.invokevirtual idx, 3)) (ht : TB[x]? = some mt) (h1 : Jvm.Cond.methodLink (mO md) idx (mY mt.1) ∈ WB) (h2 : Jvm.Cond.instanceMethod (mY mt.1) ∈ WB) (h3 : Jvm.Cond.selects (mY mt.1).cls (mY mt.1) (mY mt.1) ∈ WB) (h4 : ∃ q, vwCl[y]? = some q ∧ q.1 = (mY mt.1).cls) (h6 : (parseMethodDescriptor (mY mt.1).desc).map (fun d => d.parameters.length) = some (mN mt.1 - 1)) (h7 : 0 < mN mt.1) : IOK WB AD SR FW TB md pc (.invokevirtual idx, x, y, z, fk) := ⟨hd, trivial, Or.inr ⟨mt, ht, h1, h2, h3, h4, h6, h7⟩⟩
theorem io_face {idx cnt : Nat} {mt : MT} {xn : MethodName} (hd : decode (mC md) pc = .ok (.invokeinterface idx cnt, 5)) (ht : TB[x]? = some mt) (h0 : (ALn, xn, mY mt.1) ∈ FW) (h1 : Jvm.Cond.methodLink (mO md) idx xn ∈ WB) (h2 : Jvm.Cond.instanceMethod (mY mt.1) ∈ WB) (h3 : Jvm.Cond.selects ALn xn (mY mt.1) ∈ WB) (h4 : (mY mt.1).cls = ALn) (h8 : y = 0) (h5 : mH mt.1 = []) (h6 : (parseMethodDescriptor xn.desc).map (fun d => d.parameters.length) = some (mN mt.1 - 1)) (h7 : 0 < mN mt.1) : IOK WB AD SR FW TB md pc (.invokeinterface idx cnt, x, y, z, fk) := ⟨hd, trivial, Or.inr ⟨mt, xn, ht, h0, h1, h2, h3, h4, h8, h5, h6, h7⟩⟩
end IO
theorem nok_fk {fk : List Nat} {N : Nat} {ty : Nat → FieldType} (h : ((List.range N).all fun j => match fk[j]? with | some z => kindok z (ty j) | none => false) = true) : ∀ j, j < N → ∃ z, fk[j]? = some z ∧ kindok z (ty j) = true := by
  intro j hj
  have h2 := List.all_eq_true.mp h j (List.mem_range.mpr hj)
  cases e : fk[j]? with
  | none => simp [e] at h2
  | some z => simp [e] at h2; exact ⟨z, rfl, h2⟩
theorem at_of {L : List Jvm.Cond} (h : ∀ w ∈ L, w ∈ lw_tbl) (h2 : L.all (fun w => goodWord w || adk w) = true) : ∀ v ∈ L, v ∈ WB ∨ v ∈ AD := by
  intro v hv
  have h3 := List.all_eq_true.mp h2 v hv
  cases hg : goodWord v with
  | true => exact Or.inl (wb_of (h v hv) hg)
  | false => rw [hg] at h3; exact Or.inr (ad_of (h v hv) (by simpa using h3))
def RowsOK (mt : MT) (tf : List (Nat × Step)) : Prop := tf = mt.2.map (fun q => (q.1, stepOf NPf mt.1 q.2)) ∧ ∀ q ∈ mt.2, IOK WB AD SR FW TB mt.1 q.1 q.2
theorem rows_app {md : MD} {a b : List (Nat × IE)} {ta tb : List (Nat × Step)} (h1 : RowsOK (md, a) ta) (h2 : RowsOK (md, b) tb) : RowsOK (md, a ++ b) (ta ++ tb) := ⟨by rw [h1.1, h2.1]; exact (List.map_append).symm, List.forall_mem_append.mpr ⟨h1.2, h2.2⟩⟩
theorem no_RL_8 : NOK WB RL 8 11 [2, 2, 2, 2, 2, 2, 2, 2, 0, 0] := ⟨RX10, TX10, 10, tyX10, rfl, uw_11, tyX10_ok, (wb_1 35 rfl rfl), (wb_1 36 rfl rfl), (wb_1 1 rfl rfl), rfl, nok_fk rfl⟩
theorem no_RL_127 : NOK WB RL 127 18 [0, 0, 2, 2, 0, 2, 2, 2, 2, 2, 2, 2, 2, 2, 2, 2, 2, 2, 1, 1, 2, 2, 2, 0, 0, 1, 0, 0, 2, 2, 2, 2, 2, 2, 2, 2, 2, 2, 0, 0, 0, 2, 2, 0, 2] := ⟨RX17, TX17, 45, tyX17, rfl, uw_18, tyX17_ok, (wb_7 40 rfl rfl), (wb_7 41 rfl rfl), (wb_1 13 rfl rfl), rfl, nok_fk rfl⟩
theorem fo_RX17_7 : FOK WB RX17 7 18 2 := ⟨RX17, TX17, 45, "RuleForgeModel", rfl, uw_18, by decide, (wb_7 105 rfl rfl), Or.inl rfl⟩
theorem po_RX17_1_18_2_2 : POK RX17 true 18 2 2 := ⟨RX17, TX17, 45, tyX17, rfl, tyX17_ok, nmX17, rfl, Or.inr ⟨rfl, rfl, rfl⟩⟩
theorem fo_RX17_13 : FOK WB RX17 13 18 3 := ⟨RX17, TX17, 45, "RuleForgeModel", rfl, uw_18, by decide, (wb_7 106 rfl rfl), Or.inl rfl⟩
theorem po_RX17_1_18_3_2 : POK RX17 true 18 3 2 := ⟨RX17, TX17, 45, tyX17, rfl, tyX17_ok, nmX17, rfl, Or.inr ⟨rfl, rfl, rfl⟩⟩
theorem fo_RX17_17 : FOK WB RX17 17 18 5 := ⟨RX17, TX17, 45, "RuleForgeModel", rfl, uw_18, by decide, (wb_7 108 rfl rfl), Or.inl rfl⟩
theorem po_RX17_1_18_5_2 : POK RX17 true 18 5 2 := ⟨RX17, TX17, 45, tyX17, rfl, tyX17_ok, nmX17, rfl, Or.inr ⟨rfl, rfl, rfl⟩⟩
theorem fo_RX17_20 : FOK WB RX17 20 18 6 := ⟨RX17, TX17, 45, "RuleForgeModel", rfl, uw_18, by decide, (wb_7 109 rfl rfl), Or.inl rfl⟩
theorem po_RX17_1_18_6_2 : POK RX17 true 18 6 2 := ⟨RX17, TX17, 45, tyX17, rfl, tyX17_ok, nmX17, rfl, Or.inr ⟨rfl, rfl, rfl⟩⟩
theorem fo_RX17_23 : FOK WB RX17 23 18 7 := ⟨RX17, TX17, 45, "RuleForgeModel", rfl, uw_18, by decide, (wb_7 110 rfl rfl), Or.inl rfl⟩
theorem po_RX17_1_18_7_2 : POK RX17 true 18 7 2 := ⟨RX17, TX17, 45, tyX17, rfl, tyX17_ok, nmX17, rfl, Or.inr ⟨rfl, rfl, rfl⟩⟩
theorem fo_RX17_26 : FOK WB RX17 26 18 8 := ⟨RX17, TX17, 45, "RuleForgeModel", rfl, uw_18, by decide, (wb_7 111 rfl rfl), Or.inl rfl⟩
theorem po_RX17_1_18_8_2 : POK RX17 true 18 8 2 := ⟨RX17, TX17, 45, tyX17, rfl, tyX17_ok, nmX17, rfl, Or.inr ⟨rfl, rfl, rfl⟩⟩
theorem fo_RX17_29 : FOK WB RX17 29 18 9 := ⟨RX17, TX17, 45, "RuleForgeModel", rfl, uw_18, by decide, (wb_7 112 rfl rfl), Or.inl rfl⟩
theorem po_RX17_1_18_9_2 : POK RX17 true 18 9 2 := ⟨RX17, TX17, 45, tyX17, rfl, tyX17_ok, nmX17, rfl, Or.inr ⟨rfl, rfl, rfl⟩⟩
theorem fo_RX17_32 : FOK WB RX17 32 18 10 := ⟨RX17, TX17, 45, "RuleForgeModel", rfl, uw_18, by decide, (wb_7 113 rfl rfl), Or.inl rfl⟩
theorem po_RX17_1_18_10_2 : POK RX17 true 18 10 2 := ⟨RX17, TX17, 45, tyX17, rfl, tyX17_ok, nmX17, rfl, Or.inr ⟨rfl, rfl, rfl⟩⟩
theorem fo_RX17_35 : FOK WB RX17 35 18 11 := ⟨RX17, TX17, 45, "RuleForgeModel", rfl, uw_18, by decide, (wb_7 114 rfl rfl), Or.inl rfl⟩
theorem po_RX17_1_18_11_2 : POK RX17 true 18 11 2 := ⟨RX17, TX17, 45, tyX17, rfl, tyX17_ok, nmX17, rfl, Or.inr ⟨rfl, rfl, rfl⟩⟩
theorem fo_RX17_38 : FOK WB RX17 38 18 12 := ⟨RX17, TX17, 45, "RuleForgeModel", rfl, uw_18, by decide, (wb_7 115 rfl rfl), Or.inl rfl⟩
theorem po_RX17_1_18_12_2 : POK RX17 true 18 12 2 := ⟨RX17, TX17, 45, tyX17, rfl, tyX17_ok, nmX17, rfl, Or.inr ⟨rfl, rfl, rfl⟩⟩
theorem no_RX17_41 : NOK WB RX17 41 0 [0, 2, 0] := ⟨RJx4a65c, TJx4a65c, 3, tyJx4a65c, rfl, uw_0, tyJx4a65c_ok, (wb_7 46 rfl rfl), (wb_7 47 rfl rfl), (wb_1 16 rfl rfl), rfl, nok_fk rfl⟩
theorem fo_RX17_44 : FOK WB RX17 44 18 13 := ⟨RX17, TX17, 45, "RuleForgeModel", rfl, uw_18, by decide, (wb_7 116 rfl rfl), Or.inl rfl⟩
theorem po_RX17_1_18_13_2 : POK RX17 true 18 13 2 := ⟨RX17, TX17, 45, tyX17, rfl, tyX17_ok, nmX17, rfl, Or.inr ⟨rfl, rfl, rfl⟩⟩
theorem fo_RX17_50 : FOK WB RX17 50 18 14 := ⟨RX17, TX17, 45, "RuleForgeModel", rfl, uw_18, by decide, (wb_7 117 rfl rfl), Or.inl rfl⟩
theorem po_RX17_1_18_14_2 : POK RX17 true 18 14 2 := ⟨RX17, TX17, 45, tyX17, rfl, tyX17_ok, nmX17, rfl, Or.inr ⟨rfl, rfl, rfl⟩⟩
theorem fo_RX17_54 : FOK WB RX17 54 18 15 := ⟨RX17, TX17, 45, "RuleForgeModel", rfl, uw_18, by decide, (wb_7 118 rfl rfl), Or.inl rfl⟩
theorem po_RX17_1_18_15_2 : POK RX17 true 18 15 2 := ⟨RX17, TX17, 45, tyX17, rfl, tyX17_ok, nmX17, rfl, Or.inr ⟨rfl, rfl, rfl⟩⟩
theorem fo_RX17_57 : FOK WB RX17 57 18 16 := ⟨RX17, TX17, 45, "RuleForgeModel", rfl, uw_18, by decide, (wb_7 119 rfl rfl), Or.inl rfl⟩
theorem po_RX17_1_18_16_2 : POK RX17 true 18 16 2 := ⟨RX17, TX17, 45, tyX17, rfl, tyX17_ok, nmX17, rfl, Or.inr ⟨rfl, rfl, rfl⟩⟩
theorem fo_RX17_60 : FOK WB RX17 60 18 17 := ⟨RX17, TX17, 45, "RuleForgeModel", rfl, uw_18, by decide, (wb_7 120 rfl rfl), Or.inl rfl⟩
theorem po_RX17_1_18_17_2 : POK RX17 true 18 17 2 := ⟨RX17, TX17, 45, tyX17, rfl, tyX17_ok, nmX17, rfl, Or.inr ⟨rfl, rfl, rfl⟩⟩
theorem fo_RX17_63 : FOK WB RX17 63 18 20 := ⟨RX17, TX17, 45, "RuleForgeModel", rfl, uw_18, by decide, (wb_7 123 rfl rfl), Or.inl rfl⟩
theorem po_RX17_1_18_20_2 : POK RX17 true 18 20 2 := ⟨RX17, TX17, 45, tyX17, rfl, tyX17_ok, nmX17, rfl, Or.inr ⟨rfl, rfl, rfl⟩⟩
theorem fo_RX17_66 : FOK WB RX17 66 18 21 := ⟨RX17, TX17, 45, "RuleForgeModel", rfl, uw_18, by decide, (wb_7 124 rfl rfl), Or.inl rfl⟩
theorem po_RX17_1_18_21_2 : POK RX17 true 18 21 2 := ⟨RX17, TX17, 45, tyX17, rfl, tyX17_ok, nmX17, rfl, Or.inr ⟨rfl, rfl, rfl⟩⟩
theorem fo_RX17_69 : FOK WB RX17 69 18 22 := ⟨RX17, TX17, 45, "RuleForgeModel", rfl, uw_18, by decide, (wb_7 125 rfl rfl), Or.inl rfl⟩
theorem po_RX17_1_18_22_2 : POK RX17 true 18 22 2 := ⟨RX17, TX17, 45, tyX17, rfl, tyX17_ok, nmX17, rfl, Or.inr ⟨rfl, rfl, rfl⟩⟩
theorem fo_RX17_72 : FOK WB RX17 72 18 28 := ⟨RX17, TX17, 45, "RuleForgeModel", rfl, uw_18, by decide, (wb_7 131 rfl rfl), Or.inl rfl⟩
theorem po_RX17_1_18_28_2 : POK RX17 true 18 28 2 := ⟨RX17, TX17, 45, tyX17, rfl, tyX17_ok, nmX17, rfl, Or.inr ⟨rfl, rfl, rfl⟩⟩
theorem fo_RX17_75 : FOK WB RX17 75 18 29 := ⟨RX17, TX17, 45, "RuleForgeModel", rfl, uw_18, by decide, (wb_7 132 rfl rfl), Or.inl rfl⟩
theorem po_RX17_1_18_29_2 : POK RX17 true 18 29 2 := ⟨RX17, TX17, 45, tyX17, rfl, tyX17_ok, nmX17, rfl, Or.inr ⟨rfl, rfl, rfl⟩⟩
theorem fo_RX17_78 : FOK WB RX17 78 18 30 := ⟨RX17, TX17, 45, "RuleForgeModel", rfl, uw_18, by decide, (wb_7 133 rfl rfl), Or.inl rfl⟩
theorem po_RX17_1_18_30_2 : POK RX17 true 18 30 2 := ⟨RX17, TX17, 45, tyX17, rfl, tyX17_ok, nmX17, rfl, Or.inr ⟨rfl, rfl, rfl⟩⟩
theorem fo_RX17_81 : FOK WB RX17 81 18 31 := ⟨RX17, TX17, 45, "RuleForgeModel", rfl, uw_18, by decide, (wb_7 134 rfl rfl), Or.inl rfl⟩
theorem po_RX17_1_18_31_2 : POK RX17 true 18 31 2 := ⟨RX17, TX17, 45, tyX17, rfl, tyX17_ok, nmX17, rfl, Or.inr ⟨rfl, rfl, rfl⟩⟩
theorem fo_RX17_84 : FOK WB RX17 84 18 32 := ⟨RX17, TX17, 45, "RuleForgeModel", rfl, uw_18, by decide, (wb_7 135 rfl rfl), Or.inl rfl⟩
theorem po_RX17_1_18_32_2 : POK RX17 true 18 32 2 := ⟨RX17, TX17, 45, tyX17, rfl, tyX17_ok, nmX17, rfl, Or.inr ⟨rfl, rfl, rfl⟩⟩
theorem fo_RX17_87 : FOK WB RX17 87 18 33 := ⟨RX17, TX17, 45, "RuleForgeModel", rfl, uw_18, by decide, (wb_7 136 rfl rfl), Or.inl rfl⟩
theorem po_RX17_1_18_33_2 : POK RX17 true 18 33 2 := ⟨RX17, TX17, 45, tyX17, rfl, tyX17_ok, nmX17, rfl, Or.inr ⟨rfl, rfl, rfl⟩⟩
theorem fo_RX17_90 : FOK WB RX17 90 18 34 := ⟨RX17, TX17, 45, "RuleForgeModel", rfl, uw_18, by decide, (wb_7 137 rfl rfl), Or.inl rfl⟩
theorem po_RX17_1_18_34_2 : POK RX17 true 18 34 2 := ⟨RX17, TX17, 45, tyX17, rfl, tyX17_ok, nmX17, rfl, Or.inr ⟨rfl, rfl, rfl⟩⟩
theorem fo_RX17_93 : FOK WB RX17 93 18 35 := ⟨RX17, TX17, 45, "RuleForgeModel", rfl, uw_18, by decide, (wb_7 138 rfl rfl), Or.inl rfl⟩
theorem po_RX17_1_18_35_2 : POK RX17 true 18 35 2 := ⟨RX17, TX17, 45, tyX17, rfl, tyX17_ok, nmX17, rfl, Or.inr ⟨rfl, rfl, rfl⟩⟩
theorem fo_RX17_96 : FOK WB RX17 96 18 36 := ⟨RX17, TX17, 45, "RuleForgeModel", rfl, uw_18, by decide, (wb_7 139 rfl rfl), Or.inl rfl⟩
theorem po_RX17_1_18_36_2 : POK RX17 true 18 36 2 := ⟨RX17, TX17, 45, tyX17, rfl, tyX17_ok, nmX17, rfl, Or.inr ⟨rfl, rfl, rfl⟩⟩
theorem fo_RX17_99 : FOK WB RX17 99 18 37 := ⟨RX17, TX17, 45, "RuleForgeModel", rfl, uw_18, by decide, (wb_7 140 rfl rfl), Or.inl rfl⟩
theorem po_RX17_1_18_37_2 : POK RX17 true 18 37 2 := ⟨RX17, TX17, 45, tyX17, rfl, tyX17_ok, nmX17, rfl, Or.inr ⟨rfl, rfl, rfl⟩⟩
theorem fo_RX17_102 : FOK WB RX17 102 18 41 := ⟨RX17, TX17, 45, "RuleForgeModel", rfl, uw_18, by decide, (wb_7 144 rfl rfl), Or.inl rfl⟩
theorem po_RX17_1_18_41_2 : POK RX17 true 18 41 2 := ⟨RX17, TX17, 45, tyX17, rfl, tyX17_ok, nmX17, rfl, Or.inl rfl⟩
theorem fo_RX17_105 : FOK WB RX17 105 18 42 := ⟨RX17, TX17, 45, "RuleForgeModel", rfl, uw_18, by decide, (wb_7 145 rfl rfl), Or.inl rfl⟩
theorem po_RX17_1_18_42_2 : POK RX17 true 18 42 2 := ⟨RX17, TX17, 45, tyX17, rfl, tyX17_ok, nmX17, rfl, Or.inr ⟨rfl, rfl, rfl⟩⟩
theorem fo_RX17_108 : FOK WB RX17 108 18 44 := ⟨RX17, TX17, 45, "RuleForgeModel", rfl, uw_18, by decide, (wb_7 147 rfl rfl), Or.inl rfl⟩
theorem po_RX17_1_18_44_2 : POK RX17 true 18 44 2 := ⟨RX17, TX17, 45, tyX17, rfl, tyX17_ok, nmX17, rfl, Or.inr ⟨rfl, rfl, rfl⟩⟩
theorem no_RX17_48 : NOK WB RX17 48 17 [0, 0, 2, 0, 0, 2] := ⟨RX16, TX16, 6, tyX16, rfl, uw_17, tyX16_ok, (wb_7 72 rfl rfl), (wb_7 74 rfl rfl), (wb_1 17 rfl rfl), rfl, nok_fk rfl⟩
theorem fo_RX16_9 : FOK WB RX16 9 17 4 := ⟨RX16, TX16, 6, "RuleForgeModel$Term", rfl, uw_17, by decide, (wb_7 87 rfl rfl), Or.inl rfl⟩
theorem po_RX16_1_17_4_0 : POK RX16 true 17 4 0 := ⟨RX16, TX16, 6, tyX16, rfl, tyX16_ok, nmX16, rfl, Or.inl rfl⟩
theorem fo_RX16_15 : FOK WB RX16 15 17 0 := ⟨RX16, TX16, 6, "RuleForgeModel$Term", rfl, uw_17, by decide, (wb_7 79 rfl rfl), Or.inl rfl⟩
theorem po_RX16_1_17_0_0 : POK RX16 true 17 0 0 := ⟨RX16, TX16, 6, tyX16, rfl, tyX16_ok, nmX16, rfl, Or.inr ⟨rfl, rfl, rfl⟩⟩
theorem fo_RX16_18 : FOK WB RX16 18 17 1 := ⟨RX16, TX16, 6, "RuleForgeModel$Term", rfl, uw_17, by decide, (wb_7 81 rfl rfl), Or.inl rfl⟩
theorem po_RX16_1_17_1_0 : POK RX16 true 17 1 0 := ⟨RX16, TX16, 6, tyX16, rfl, tyX16_ok, nmX16, rfl, Or.inr ⟨rfl, rfl, rfl⟩⟩
theorem fo_RX16_21 : FOK WB RX16 21 17 2 := ⟨RX16, TX16, 6, "RuleForgeModel$Term", rfl, uw_17, by decide, (wb_7 83 rfl rfl), Or.inl rfl⟩
theorem po_RX16_1_17_2_2 : POK RX16 true 17 2 2 := ⟨RX16, TX16, 6, tyX16, rfl, tyX16_ok, nmX16, rfl, Or.inr ⟨rfl, rfl, rfl⟩⟩
theorem fo_RX16_25 : FOK WB RX16 25 17 3 := ⟨RX16, TX16, 6, "RuleForgeModel$Term", rfl, uw_17, by decide, (wb_7 85 rfl rfl), Or.inl rfl⟩
theorem po_RX16_1_17_3_0 : POK RX16 true 17 3 0 := ⟨RX16, TX16, 6, tyX16, rfl, tyX16_ok, nmX16, rfl, Or.inr ⟨rfl, rfl, rfl⟩⟩
theorem fo_RX8_9 : FOK WB RX8 9 9 1 := ⟨RX8, TX8, 11, "RuleForge$Terms", rfl, uw_9, by decide, (wb_1 120 rfl rfl), Or.inl rfl⟩
theorem po_RX8_1_9_1_2 : POK RX8 true 9 1 2 := ⟨RX8, TX8, 11, tyX8, rfl, tyX8_ok, nmX8, rfl, Or.inr ⟨rfl, rfl, rfl⟩⟩
theorem fo_RX8_15 : FOK WB RX8 15 9 2 := ⟨RX8, TX8, 11, "RuleForge$Terms", rfl, uw_9, by decide, (wb_1 127 rfl rfl), Or.inl rfl⟩
theorem po_RX8_1_9_2_0 : POK RX8 true 9 2 0 := ⟨RX8, TX8, 11, tyX8, rfl, tyX8_ok, nmX8, rfl, Or.inl rfl⟩
theorem fo_RX8_19 : FOK WB RX8 19 9 3 := ⟨RX8, TX8, 11, "RuleForge$Terms", rfl, uw_9, by decide, (wb_1 134 rfl rfl), Or.inl rfl⟩
theorem po_RX8_1_9_3_2 : POK RX8 true 9 3 2 := ⟨RX8, TX8, 11, tyX8, rfl, tyX8_ok, nmX8, rfl, Or.inr ⟨rfl, rfl, rfl⟩⟩
theorem fo_RX8_22 : FOK WB RX8 22 9 5 := ⟨RX8, TX8, 11, "RuleForge$Terms", rfl, uw_9, by decide, (wb_1 137 rfl rfl), Or.inl rfl⟩
theorem po_RX8_1_9_5_2 : POK RX8 true 9 5 2 := ⟨RX8, TX8, 11, tyX8, rfl, tyX8_ok, nmX8, rfl, Or.inr ⟨rfl, rfl, rfl⟩⟩
theorem fo_RX8_25 : FOK WB RX8 25 9 6 := ⟨RX8, TX8, 11, "RuleForge$Terms", rfl, uw_9, by decide, (wb_1 138 rfl rfl), Or.inl rfl⟩
theorem po_RX8_1_9_6_2 : POK RX8 true 9 6 2 := ⟨RX8, TX8, 11, tyX8, rfl, tyX8_ok, nmX8, rfl, Or.inr ⟨rfl, rfl, rfl⟩⟩
theorem fo_RX8_28 : FOK WB RX8 28 9 7 := ⟨RX8, TX8, 11, "RuleForge$Terms", rfl, uw_9, by decide, (wb_1 139 rfl rfl), Or.inl rfl⟩
theorem po_RX8_1_9_7_2 : POK RX8 true 9 7 2 := ⟨RX8, TX8, 11, tyX8, rfl, tyX8_ok, nmX8, rfl, Or.inr ⟨rfl, rfl, rfl⟩⟩
theorem fo_RX8_31 : FOK WB RX8 31 9 8 := ⟨RX8, TX8, 11, "RuleForge$Terms", rfl, uw_9, by decide, (wb_1 143 rfl rfl), Or.inl rfl⟩
theorem po_RX8_1_9_8_0 : POK RX8 true 9 8 0 := ⟨RX8, TX8, 11, tyX8, rfl, tyX8_ok, nmX8, rfl, Or.inl rfl⟩
theorem fo_RX8_34 : FOK WB RX8 34 9 9 := ⟨RX8, TX8, 11, "RuleForge$Terms", rfl, uw_9, by decide, (wb_1 146 rfl rfl), Or.inl rfl⟩
theorem po_RX8_1_9_9_0 : POK RX8 true 9 9 0 := ⟨RX8, TX8, 11, tyX8, rfl, tyX8_ok, nmX8, rfl, Or.inl rfl⟩
theorem fo_RX8_37 : FOK WB RX8 37 9 0 := ⟨RX8, TX8, 11, "RuleForge$Terms", rfl, uw_9, by decide, (wb_1 117 rfl rfl), Or.inl rfl⟩
theorem po_RX8_1_9_0_2 : POK RX8 true 9 0 2 := ⟨RX8, TX8, 11, tyX8, rfl, tyX8_ok, nmX8, rfl, Or.inr ⟨rfl, rfl, rfl⟩⟩
theorem fo_RX7_9 : FOK WB RX7 9 8 2 := ⟨RX7, TX7, 11, "RuleForge$Signature", rfl, uw_8, by decide, (wb_1 57 rfl rfl), Or.inl rfl⟩
theorem po_RX7_1_8_2_2 : POK RX7 true 8 2 2 := ⟨RX7, TX7, 11, tyX7, rfl, tyX7_ok, nmX7, rfl, Or.inr ⟨rfl, rfl, rfl⟩⟩
theorem fo_RX7_15 : FOK WB RX7 15 8 3 := ⟨RX7, TX7, 11, "RuleForge$Signature", rfl, uw_8, by decide, (wb_1 58 rfl rfl), Or.inl rfl⟩
theorem po_RX7_1_8_3_2 : POK RX7 true 8 3 2 := ⟨RX7, TX7, 11, tyX7, rfl, tyX7_ok, nmX7, rfl, Or.inr ⟨rfl, rfl, rfl⟩⟩
theorem fo_RX7_18 : FOK WB RX7 18 8 4 := ⟨RX7, TX7, 11, "RuleForge$Signature", rfl, uw_8, by decide, (wb_1 63 rfl rfl), Or.inl rfl⟩
theorem po_RX7_1_8_4_2 : POK RX7 true 8 4 2 := ⟨RX7, TX7, 11, tyX7, rfl, tyX7_ok, nmX7, rfl, Or.inr ⟨rfl, rfl, rfl⟩⟩
theorem fo_RX7_21 : FOK WB RX7 21 8 5 := ⟨RX7, TX7, 11, "RuleForge$Signature", rfl, uw_8, by decide, (wb_1 65 rfl rfl), Or.inl rfl⟩
theorem po_RX7_1_8_5_2 : POK RX7 true 8 5 2 := ⟨RX7, TX7, 11, tyX7, rfl, tyX7_ok, nmX7, rfl, Or.inr ⟨rfl, rfl, rfl⟩⟩
theorem fo_RX7_24 : FOK WB RX7 24 8 6 := ⟨RX7, TX7, 11, "RuleForge$Signature", rfl, uw_8, by decide, (wb_1 72 rfl rfl), Or.inl rfl⟩
theorem po_RX7_1_8_6_2 : POK RX7 true 8 6 2 := ⟨RX7, TX7, 11, tyX7, rfl, tyX7_ok, nmX7, rfl, Or.inr ⟨rfl, rfl, rfl⟩⟩
theorem fo_RX7_27 : FOK WB RX7 27 8 7 := ⟨RX7, TX7, 11, "RuleForge$Signature", rfl, uw_8, by decide, (wb_1 76 rfl rfl), Or.inl rfl⟩
theorem po_RX7_1_8_7_2 : POK RX7 true 8 7 2 := ⟨RX7, TX7, 11, tyX7, rfl, tyX7_ok, nmX7, rfl, Or.inr ⟨rfl, rfl, rfl⟩⟩
theorem fo_RX7_30 : FOK WB RX7 30 8 8 := ⟨RX7, TX7, 11, "RuleForge$Signature", rfl, uw_8, by decide, (wb_1 78 rfl rfl), Or.inl rfl⟩
theorem po_RX7_1_8_8_2 : POK RX7 true 8 8 2 := ⟨RX7, TX7, 11, tyX7, rfl, tyX7_ok, nmX7, rfl, Or.inr ⟨rfl, rfl, rfl⟩⟩
theorem fo_RX7_33 : FOK WB RX7 33 8 9 := ⟨RX7, TX7, 11, "RuleForge$Signature", rfl, uw_8, by decide, (wb_1 79 rfl rfl), Or.inl rfl⟩
theorem po_RX7_1_8_9_2 : POK RX7 true 8 9 2 := ⟨RX7, TX7, 11, tyX7, rfl, tyX7_ok, nmX7, rfl, Or.inr ⟨rfl, rfl, rfl⟩⟩
theorem fo_RX7_36 : FOK WB RX7 36 8 10 := ⟨RX7, TX7, 11, "RuleForge$Signature", rfl, uw_8, by decide, (wb_1 82 rfl rfl), Or.inl rfl⟩
theorem po_RX7_1_8_10_2 : POK RX7 true 8 10 2 := ⟨RX7, TX7, 11, tyX7, rfl, tyX7_ok, nmX7, rfl, Or.inr ⟨rfl, rfl, rfl⟩⟩
theorem no_RX10_9 : NOK WB RX10 9 8 [0, 0, 2, 2, 2, 2, 2, 2, 2, 2, 2] := ⟨RX7, TX7, 11, tyX7, rfl, uw_8, tyX7_ok, (wb_1 43 rfl rfl), (wb_1 44 rfl rfl), (wb_1 2 rfl rfl), rfl, nok_fk rfl⟩
theorem fo_RX10_12 : FOK WB RX10 12 11 0 := ⟨RX10, TX10, 10, "RuleForge", rfl, uw_11, by decide, (wb_3 81 rfl rfl), Or.inl rfl⟩
theorem po_RX10_1_11_0_2 : POK RX10 true 11 0 2 := ⟨RX10, TX10, 10, tyX10, rfl, tyX10_ok, nmX10, rfl, Or.inr ⟨rfl, rfl, rfl⟩⟩
theorem no_RX10_16 : NOK WB RX10 16 9 [2, 2, 0, 2, 0, 2, 2, 2, 0, 0, 1] := ⟨RX8, TX8, 11, tyX8, rfl, uw_9, tyX8_ok, (wb_1 109 rfl rfl), (wb_1 110 rfl rfl), (wb_1 4 rfl rfl), rfl, nok_fk rfl⟩
theorem fo_RX10_21 : FOK WB RX10 21 11 1 := ⟨RX10, TX10, 10, "RuleForge", rfl, uw_11, by decide, (wb_3 82 rfl rfl), Or.inl rfl⟩
theorem po_RX10_1_11_1_2 : POK RX10 true 11 1 2 := ⟨RX10, TX10, 10, tyX10, rfl, tyX10_ok, nmX10, rfl, Or.inr ⟨rfl, rfl, rfl⟩⟩
theorem no_RX10_25 : NOK WB RX10 25 3 [2, 2, 0, 0, 2] := ⟨RX2, TX2, 5, tyX2, rfl, uw_3, tyX2_ok, (wb_1 174 rfl rfl), (wb_1 175 rfl rfl), (wb_1 5 rfl rfl), rfl, nok_fk rfl⟩
theorem fo_RX10_30 : FOK WB RX10 30 11 2 := ⟨RX10, TX10, 10, "RuleForge", rfl, uw_11, by decide, (wb_3 83 rfl rfl), Or.inl rfl⟩
theorem po_RX10_1_11_2_2 : POK RX10 true 11 2 2 := ⟨RX10, TX10, 10, tyX10, rfl, tyX10_ok, nmX10, rfl, Or.inr ⟨rfl, rfl, rfl⟩⟩
theorem no_RX10_34 : NOK WB RX10 34 4 [2, 2, 2, 2, 2, 0, 2, 2, 2, 2, 2, 2, 0, 0, 0, 0] := ⟨RX3, TX3, 16, tyX3, rfl, uw_4, tyX3_ok, (wb_1 206 rfl rfl), (wb_1 207 rfl rfl), (wb_1 6 rfl rfl), rfl, nok_fk rfl⟩
theorem fo_RX10_37 : FOK WB RX10 37 11 3 := ⟨RX10, TX10, 10, "RuleForge", rfl, uw_11, by decide, (wb_3 84 rfl rfl), Or.inl rfl⟩
theorem po_RX10_1_11_3_2 : POK RX10 true 11 3 2 := ⟨RX10, TX10, 10, tyX10, rfl, tyX10_ok, nmX10, rfl, Or.inr ⟨rfl, rfl, rfl⟩⟩
theorem no_RX10_41 : NOK WB RX10 41 7 [2, 2, 2, 0, 0, 2, 2, 2, 2, 2] := ⟨RX6, TX6, 10, tyX6, rfl, uw_7, tyX6_ok, (wb_2 89 rfl rfl), (wb_2 90 rfl rfl), (wb_1 8 rfl rfl), rfl, nok_fk rfl⟩
theorem fo_RX10_46 : FOK WB RX10 46 11 4 := ⟨RX10, TX10, 10, "RuleForge", rfl, uw_11, by decide, (wb_3 85 rfl rfl), Or.inl rfl⟩
theorem po_RX10_1_11_4_2 : POK RX10 true 11 4 2 := ⟨RX10, TX10, 10, tyX10, rfl, tyX10_ok, nmX10, rfl, Or.inr ⟨rfl, rfl, rfl⟩⟩
theorem no_RX10_50 : NOK WB RX10 50 10 [2, 2, 2, 2, 0, 0, 0, 0, 0, 0, 0, 0, 0, 0, 0] := ⟨RX9, TX9, 15, tyX9, rfl, uw_10, tyX9_ok, (wb_2 135 rfl rfl), (wb_2 136 rfl rfl), (wb_1 9 rfl rfl), rfl, nok_fk rfl⟩
theorem no_RX10_55 : NOK WB RX10 55 2 [2, 2, 0, 1, 2, 2, 2, 0, 0] := ⟨RX1, TX1, 9, tyX1, rfl, uw_2, tyX1_ok, (wb_2 195 rfl rfl), (wb_2 196 rfl rfl), (wb_1 10 rfl rfl), rfl, nok_fk rfl⟩
theorem fo_RX10_60 : FOK WB RX10 60 11 5 := ⟨RX10, TX10, 10, "RuleForge", rfl, uw_11, by decide, (wb_3 86 rfl rfl), Or.inl rfl⟩
theorem po_RX10_1_11_5_2 : POK RX10 true 11 5 2 := ⟨RX10, TX10, 10, tyX10, rfl, tyX10_ok, nmX10, rfl, Or.inr ⟨rfl, rfl, rfl⟩⟩
theorem no_RX10_64 : NOK WB RX10 64 6 [2, 2, 0, 0, 2, 2, 2, 0, 0] := ⟨RX5, TX5, 9, tyX5, rfl, uw_6, tyX5_ok, (wb_2 233 rfl rfl), (wb_2 234 rfl rfl), (wb_1 11 rfl rfl), rfl, nok_fk rfl⟩
theorem fo_RX10_67 : FOK WB RX10 67 11 6 := ⟨RX10, TX10, 10, "RuleForge", rfl, uw_11, by decide, (wb_3 87 rfl rfl), Or.inl rfl⟩
theorem po_RX10_1_11_6_2 : POK RX10 true 11 6 2 := ⟨RX10, TX10, 10, tyX10, rfl, tyX10_ok, nmX10, rfl, Or.inr ⟨rfl, rfl, rfl⟩⟩
theorem no_RX10_71 : NOK WB RX10 71 1 [2, 2, 2, 2, 0, 2, 2, 2, 0, 2, 0, 0, 0, 2] := ⟨RX0, TX0, 14, tyX0, rfl, uw_1, tyX0_ok, (wb_3 29 rfl rfl), (wb_3 30 rfl rfl), (wb_1 12 rfl rfl), rfl, nok_fk rfl⟩
theorem fo_RX10_74 : FOK WB RX10 74 11 7 := ⟨RX10, TX10, 10, "RuleForge", rfl, uw_11, by decide, (wb_3 88 rfl rfl), Or.inl rfl⟩
theorem po_RX10_1_11_7_2 : POK RX10 true 11 7 2 := ⟨RX10, TX10, 10, tyX10, rfl, tyX10_ok, nmX10, rfl, Or.inr ⟨rfl, rfl, rfl⟩⟩
theorem fo_RX4_11 : FOK WB RX4 11 5 3 := ⟨RX4, TX4, 16, "RuleForge$Pieces", rfl, uw_5, by decide, (wb_1 221 rfl rfl), Or.inl rfl⟩
theorem po_RX4_1_5_3_2 : POK RX4 true 5 3 2 := ⟨RX4, TX4, 16, tyX4, rfl, tyX4_ok, nmX4, rfl, Or.inr ⟨rfl, rfl, rfl⟩⟩
theorem fo_RX4_15 : FOK WB RX4 15 5 4 := ⟨RX4, TX4, 16, "RuleForge$Pieces", rfl, uw_5, by decide, (wb_1 223 rfl rfl), Or.inl rfl⟩
theorem po_RX4_1_5_4_2 : POK RX4 true 5 4 2 := ⟨RX4, TX4, 16, tyX4, rfl, tyX4_ok, nmX4, rfl, Or.inr ⟨rfl, rfl, rfl⟩⟩
theorem fo_RX4_18 : FOK WB RX4 18 5 5 := ⟨RX4, TX4, 16, "RuleForge$Pieces", rfl, uw_5, by decide, (wb_1 224 rfl rfl), Or.inl rfl⟩
theorem po_RX4_1_5_5_2 : POK RX4 true 5 5 2 := ⟨RX4, TX4, 16, tyX4, rfl, tyX4_ok, nmX4, rfl, Or.inr ⟨rfl, rfl, rfl⟩⟩
theorem fo_RX4_21 : FOK WB RX4 21 5 6 := ⟨RX4, TX4, 16, "RuleForge$Pieces", rfl, uw_5, by decide, (wb_1 226 rfl rfl), Or.inl rfl⟩
theorem po_RX4_1_5_6_2 : POK RX4 true 5 6 2 := ⟨RX4, TX4, 16, tyX4, rfl, tyX4_ok, nmX4, rfl, Or.inr ⟨rfl, rfl, rfl⟩⟩
theorem fo_RX4_24 : FOK WB RX4 24 5 7 := ⟨RX4, TX4, 16, "RuleForge$Pieces", rfl, uw_5, by decide, (wb_1 227 rfl rfl), Or.inl rfl⟩
theorem po_RX4_1_5_7_2 : POK RX4 true 5 7 2 := ⟨RX4, TX4, 16, tyX4, rfl, tyX4_ok, nmX4, rfl, Or.inr ⟨rfl, rfl, rfl⟩⟩
theorem fo_RX4_27 : FOK WB RX4 27 5 8 := ⟨RX4, TX4, 16, "RuleForge$Pieces", rfl, uw_5, by decide, (wb_1 228 rfl rfl), Or.inl rfl⟩
theorem po_RX4_1_5_8_2 : POK RX4 true 5 8 2 := ⟨RX4, TX4, 16, tyX4, rfl, tyX4_ok, nmX4, rfl, Or.inr ⟨rfl, rfl, rfl⟩⟩
theorem fo_RX4_30 : FOK WB RX4 30 5 10 := ⟨RX4, TX4, 16, "RuleForge$Pieces", rfl, uw_5, by decide, (wb_1 232 rfl rfl), Or.inl rfl⟩
theorem po_RX4_1_5_10_2 : POK RX4 true 5 10 2 := ⟨RX4, TX4, 16, tyX4, rfl, tyX4_ok, nmX4, rfl, Or.inr ⟨rfl, rfl, rfl⟩⟩
theorem fo_RX4_33 : FOK WB RX4 33 5 11 := ⟨RX4, TX4, 16, "RuleForge$Pieces", rfl, uw_5, by decide, (wb_1 234 rfl rfl), Or.inl rfl⟩
theorem po_RX4_1_5_11_2 : POK RX4 true 5 11 2 := ⟨RX4, TX4, 16, tyX4, rfl, tyX4_ok, nmX4, rfl, Or.inr ⟨rfl, rfl, rfl⟩⟩
theorem fo_RX4_36 : FOK WB RX4 36 5 12 := ⟨RX4, TX4, 16, "RuleForge$Pieces", rfl, uw_5, by decide, (wb_1 236 rfl rfl), Or.inl rfl⟩
theorem po_RX4_1_5_12_2 : POK RX4 true 5 12 2 := ⟨RX4, TX4, 16, tyX4, rfl, tyX4_ok, nmX4, rfl, Or.inr ⟨rfl, rfl, rfl⟩⟩
theorem fo_RX4_39 : FOK WB RX4 39 5 13 := ⟨RX4, TX4, 16, "RuleForge$Pieces", rfl, uw_5, by decide, (wb_1 237 rfl rfl), Or.inl rfl⟩
theorem po_RX4_1_5_13_2 : POK RX4 true 5 13 2 := ⟨RX4, TX4, 16, tyX4, rfl, tyX4_ok, nmX4, rfl, Or.inr ⟨rfl, rfl, rfl⟩⟩
theorem fo_RX4_42 : FOK WB RX4 42 5 14 := ⟨RX4, TX4, 16, "RuleForge$Pieces", rfl, uw_5, by decide, (wb_1 238 rfl rfl), Or.inl rfl⟩
theorem po_RX4_1_5_14_2 : POK RX4 true 5 14 2 := ⟨RX4, TX4, 16, tyX4, rfl, tyX4_ok, nmX4, rfl, Or.inr ⟨rfl, rfl, rfl⟩⟩
theorem fo_RX4_45 : FOK WB RX4 45 5 0 := ⟨RX4, TX4, 16, "RuleForge$Pieces", rfl, uw_5, by decide, (wb_1 218 rfl rfl), Or.inl rfl⟩
theorem po_RX4_1_5_0_2 : POK RX4 true 5 0 2 := ⟨RX4, TX4, 16, tyX4, rfl, tyX4_ok, nmX4, rfl, Or.inr ⟨rfl, rfl, rfl⟩⟩
theorem fo_RX4_49 : FOK WB RX4 49 9 0 := ⟨RX8, TX8, 11, "RuleForge$Terms", rfl, uw_9, by decide, (wb_1 119 rfl rfl), Or.inl rfl⟩
theorem fo_RX4_55 : FOK WB RX4 55 5 1 := ⟨RX4, TX4, 16, "RuleForge$Pieces", rfl, uw_5, by decide, (wb_1 219 rfl rfl), Or.inl rfl⟩
theorem po_RX4_1_5_1_2 : POK RX4 true 5 1 2 := ⟨RX4, TX4, 16, tyX4, rfl, tyX4_ok, nmX4, rfl, Or.inr ⟨rfl, rfl, rfl⟩⟩
theorem fo_RX3_11 : FOK WB RX3 11 4 3 := ⟨RX3, TX3, 16, "RuleForge$Matcher", rfl, uw_4, by decide, (wb_2 37 rfl rfl), Or.inl rfl⟩
theorem po_RX3_1_4_3_2 : POK RX3 true 4 3 2 := ⟨RX3, TX3, 16, tyX3, rfl, tyX3_ok, nmX3, rfl, Or.inr ⟨rfl, rfl, rfl⟩⟩
theorem fo_RX3_17 : FOK WB RX3 17 4 4 := ⟨RX3, TX3, 16, "RuleForge$Matcher", rfl, uw_4, by decide, (wb_2 38 rfl rfl), Or.inl rfl⟩
theorem po_RX3_1_4_4_2 : POK RX3 true 4 4 2 := ⟨RX3, TX3, 16, tyX3, rfl, tyX3_ok, nmX3, rfl, Or.inr ⟨rfl, rfl, rfl⟩⟩
theorem fo_RX3_20 : FOK WB RX3 20 4 6 := ⟨RX3, TX3, 16, "RuleForge$Matcher", rfl, uw_4, by decide, (wb_2 40 rfl rfl), Or.inl rfl⟩
theorem po_RX3_1_4_6_2 : POK RX3 true 4 6 2 := ⟨RX3, TX3, 16, tyX3, rfl, tyX3_ok, nmX3, rfl, Or.inr ⟨rfl, rfl, rfl⟩⟩
theorem fo_RX3_23 : FOK WB RX3 23 4 7 := ⟨RX3, TX3, 16, "RuleForge$Matcher", rfl, uw_4, by decide, (wb_2 41 rfl rfl), Or.inl rfl⟩
theorem po_RX3_1_4_7_2 : POK RX3 true 4 7 2 := ⟨RX3, TX3, 16, tyX3, rfl, tyX3_ok, nmX3, rfl, Or.inr ⟨rfl, rfl, rfl⟩⟩
theorem fo_RX3_26 : FOK WB RX3 26 4 8 := ⟨RX3, TX3, 16, "RuleForge$Matcher", rfl, uw_4, by decide, (wb_2 42 rfl rfl), Or.inl rfl⟩
theorem po_RX3_1_4_8_2 : POK RX3 true 4 8 2 := ⟨RX3, TX3, 16, tyX3, rfl, tyX3_ok, nmX3, rfl, Or.inr ⟨rfl, rfl, rfl⟩⟩
theorem fo_RX3_29 : FOK WB RX3 29 4 9 := ⟨RX3, TX3, 16, "RuleForge$Matcher", rfl, uw_4, by decide, (wb_2 43 rfl rfl), Or.inl rfl⟩
theorem po_RX3_1_4_9_2 : POK RX3 true 4 9 2 := ⟨RX3, TX3, 16, tyX3, rfl, tyX3_ok, nmX3, rfl, Or.inr ⟨rfl, rfl, rfl⟩⟩
theorem fo_RX3_32 : FOK WB RX3 32 4 10 := ⟨RX3, TX3, 16, "RuleForge$Matcher", rfl, uw_4, by decide, (wb_2 44 rfl rfl), Or.inl rfl⟩
theorem po_RX3_1_4_10_2 : POK RX3 true 4 10 2 := ⟨RX3, TX3, 16, tyX3, rfl, tyX3_ok, nmX3, rfl, Or.inr ⟨rfl, rfl, rfl⟩⟩
theorem fo_RX3_35 : FOK WB RX3 35 4 11 := ⟨RX3, TX3, 16, "RuleForge$Matcher", rfl, uw_4, by decide, (wb_2 45 rfl rfl), Or.inl rfl⟩
theorem po_RX3_1_4_11_2 : POK RX3 true 4 11 2 := ⟨RX3, TX3, 16, tyX3, rfl, tyX3_ok, nmX3, rfl, Or.inr ⟨rfl, rfl, rfl⟩⟩
theorem fo_RX3_38 : FOK WB RX3 38 4 0 := ⟨RX3, TX3, 16, "RuleForge$Matcher", rfl, uw_4, by decide, (wb_2 34 rfl rfl), Or.inl rfl⟩
theorem po_RX3_1_4_0_2 : POK RX3 true 4 0 2 := ⟨RX3, TX3, 16, tyX3, rfl, tyX3_ok, nmX3, rfl, Or.inr ⟨rfl, rfl, rfl⟩⟩
theorem fo_RX3_42 : FOK WB RX3 42 9 0 := ⟨RX8, TX8, 11, "RuleForge$Terms", rfl, uw_9, by decide, (wb_1 118 rfl rfl), Or.inl rfl⟩
theorem fo_RX3_48 : FOK WB RX3 48 4 1 := ⟨RX3, TX3, 16, "RuleForge$Matcher", rfl, uw_4, by decide, (wb_2 35 rfl rfl), Or.inl rfl⟩
theorem po_RX3_1_4_1_2 : POK RX3 true 4 1 2 := ⟨RX3, TX3, 16, tyX3, rfl, tyX3_ok, nmX3, rfl, Or.inr ⟨rfl, rfl, rfl⟩⟩
theorem no_RX3_9 : NOK WB RX3 9 5 [2, 2, 0, 2, 2, 2, 2, 2, 2, 0, 2, 2, 2, 2, 2, 0] := ⟨RX4, TX4, 16, tyX4, rfl, uw_5, tyX4_ok, (wb_1 212 rfl rfl), (wb_1 213 rfl rfl), (wb_1 7 rfl rfl), rfl, nok_fk rfl⟩
theorem fo_RX3_52 : FOK WB RX3 52 4 2 := ⟨RX3, TX3, 16, "RuleForge$Matcher", rfl, uw_4, by decide, (wb_2 36 rfl rfl), Or.inl rfl⟩
theorem po_RX3_1_4_2_2 : POK RX3 true 4 2 2 := ⟨RX3, TX3, 16, tyX3, rfl, tyX3_ok, nmX3, rfl, Or.inr ⟨rfl, rfl, rfl⟩⟩
theorem fo_RX0_9 : FOK WB RX0 9 1 5 := ⟨RX0, TX0, 14, "RuleForge$CriticalPairs", rfl, uw_1, by decide, (wb_3 41 rfl rfl), Or.inl rfl⟩
theorem po_RX0_1_1_5_2 : POK RX0 true 1 5 2 := ⟨RX0, TX0, 14, tyX0, rfl, tyX0_ok, nmX0, rfl, Or.inr ⟨rfl, rfl, rfl⟩⟩
theorem fo_RX0_15 : FOK WB RX0 15 1 6 := ⟨RX0, TX0, 14, "RuleForge$CriticalPairs", rfl, uw_1, by decide, (wb_3 42 rfl rfl), Or.inl rfl⟩
theorem po_RX0_1_1_6_2 : POK RX0 true 1 6 2 := ⟨RX0, TX0, 14, tyX0, rfl, tyX0_ok, nmX0, rfl, Or.inr ⟨rfl, rfl, rfl⟩⟩
theorem fo_RX0_18 : FOK WB RX0 18 1 7 := ⟨RX0, TX0, 14, "RuleForge$CriticalPairs", rfl, uw_1, by decide, (wb_3 43 rfl rfl), Or.inl rfl⟩
theorem po_RX0_1_1_7_2 : POK RX0 true 1 7 2 := ⟨RX0, TX0, 14, tyX0, rfl, tyX0_ok, nmX0, rfl, Or.inr ⟨rfl, rfl, rfl⟩⟩
theorem fo_RX0_21 : FOK WB RX0 21 1 9 := ⟨RX0, TX0, 14, "RuleForge$CriticalPairs", rfl, uw_1, by decide, (wb_3 45 rfl rfl), Or.inl rfl⟩
theorem po_RX0_1_1_9_2 : POK RX0 true 1 9 2 := ⟨RX0, TX0, 14, tyX0, rfl, tyX0_ok, nmX0, rfl, Or.inr ⟨rfl, rfl, rfl⟩⟩
theorem fo_RX0_24 : FOK WB RX0 24 1 13 := ⟨RX0, TX0, 14, "RuleForge$CriticalPairs", rfl, uw_1, by decide, (wb_3 50 rfl rfl), Or.inl rfl⟩
theorem po_RX0_1_1_13_2 : POK RX0 true 1 13 2 := ⟨RX0, TX0, 14, tyX0, rfl, tyX0_ok, nmX0, rfl, Or.inr ⟨rfl, rfl, rfl⟩⟩
theorem fo_RX0_28 : FOK WB RX0 28 7 0 := ⟨RX6, TX6, 10, "RuleForge$Reducer", rfl, uw_7, by decide, (wb_2 96 rfl rfl), Or.inl rfl⟩
theorem fo_RX0_34 : FOK WB RX0 34 1 0 := ⟨RX0, TX0, 14, "RuleForge$CriticalPairs", rfl, uw_1, by decide, (wb_3 35 rfl rfl), Or.inl rfl⟩
theorem po_RX0_1_1_0_2 : POK RX0 true 1 0 2 := ⟨RX0, TX0, 14, tyX0, rfl, tyX0_ok, nmX0, rfl, Or.inr ⟨rfl, rfl, rfl⟩⟩
theorem fo_RX0_35 : FOK WB RX0 35 9 0 := ⟨RX8, TX8, 11, "RuleForge$Terms", rfl, uw_9, by decide, (wb_1 116 rfl rfl), Or.inl rfl⟩
theorem fo_RX0_41 : FOK WB RX0 41 1 1 := ⟨RX0, TX0, 14, "RuleForge$CriticalPairs", rfl, uw_1, by decide, (wb_3 36 rfl rfl), Or.inl rfl⟩
theorem po_RX0_1_1_1_2 : POK RX0 true 1 1 2 := ⟨RX0, TX0, 14, tyX0, rfl, tyX0_ok, nmX0, rfl, Or.inr ⟨rfl, rfl, rfl⟩⟩
theorem fo_RX0_42 : FOK WB RX0 42 7 1 := ⟨RX6, TX6, 10, "RuleForge$Reducer", rfl, uw_7, by decide, (wb_2 100 rfl rfl), Or.inl rfl⟩
theorem fo_RX0_46 : FOK WB RX0 46 1 2 := ⟨RX0, TX0, 14, "RuleForge$CriticalPairs", rfl, uw_1, by decide, (wb_3 37 rfl rfl), Or.inl rfl⟩
theorem po_RX0_1_1_2_2 : POK RX0 true 1 2 2 := ⟨RX0, TX0, 14, tyX0, rfl, tyX0_ok, nmX0, rfl, Or.inr ⟨rfl, rfl, rfl⟩⟩
theorem fo_RX0_47 : FOK WB RX0 47 1 3 := ⟨RX0, TX0, 14, "RuleForge$CriticalPairs", rfl, uw_1, by decide, (wb_3 38 rfl rfl), Or.inl rfl⟩
theorem po_RX0_1_1_3_2 : POK RX0 true 1 3 2 := ⟨RX0, TX0, 14, tyX0, rfl, tyX0_ok, nmX0, rfl, Or.inr ⟨rfl, rfl, rfl⟩⟩
theorem fo_RJxc12de_7 : FOK WB RJxc12de 7 0 0 := ⟨RJx4a65c, TJx4a65c, 3, "java/util/AbstractList", rfl, uw_0, by decide, (wb_7 62 rfl rfl), Or.inl rfl⟩
theorem po_RJxc12de_1_0_0_0 : POK RJxc12de true 0 0 0 := ⟨RJx4a65c, TJx4a65c, 3, tyJx4a65c, rfl, tyJx4a65c_ok, nmJx4a65c, rfl, Or.inl rfl⟩
theorem fo_RJx4a65c_9 : FOK WB RJx4a65c 9 0 1 := ⟨RJx4a65c, TJx4a65c, 3, "java/util/ArrayList", rfl, uw_0, by decide, (wb_7 60 rfl rfl), Or.inl rfl⟩
theorem po_RJx4a65c_1_0_1_2 : POK RJx4a65c true 0 1 2 := ⟨RJx4a65c, TJx4a65c, 3, tyJx4a65c, rfl, tyJx4a65c_ok, nmJx4a65c, rfl, Or.inl rfl⟩
theorem fo_RX6_11 : FOK WB RX6 11 7 5 := ⟨RX6, TX6, 10, "RuleForge$Reducer", rfl, uw_7, by decide, (wb_2 109 rfl rfl), Or.inl rfl⟩
theorem po_RX6_1_7_5_2 : POK RX6 true 7 5 2 := ⟨RX6, TX6, 10, tyX6, rfl, tyX6_ok, nmX6, rfl, Or.inr ⟨rfl, rfl, rfl⟩⟩
theorem fo_RX6_15 : FOK WB RX6 15 7 6 := ⟨RX6, TX6, 10, "RuleForge$Reducer", rfl, uw_7, by decide, (wb_2 110 rfl rfl), Or.inl rfl⟩
theorem po_RX6_1_7_6_2 : POK RX6 true 7 6 2 := ⟨RX6, TX6, 10, tyX6, rfl, tyX6_ok, nmX6, rfl, Or.inr ⟨rfl, rfl, rfl⟩⟩
theorem fo_RX6_18 : FOK WB RX6 18 7 7 := ⟨RX6, TX6, 10, "RuleForge$Reducer", rfl, uw_7, by decide, (wb_2 111 rfl rfl), Or.inl rfl⟩
theorem po_RX6_1_7_7_2 : POK RX6 true 7 7 2 := ⟨RX6, TX6, 10, tyX6, rfl, tyX6_ok, nmX6, rfl, Or.inr ⟨rfl, rfl, rfl⟩⟩
theorem fo_RX6_21 : FOK WB RX6 21 7 8 := ⟨RX6, TX6, 10, "RuleForge$Reducer", rfl, uw_7, by decide, (wb_2 112 rfl rfl), Or.inl rfl⟩
theorem po_RX6_1_7_8_2 : POK RX6 true 7 8 2 := ⟨RX6, TX6, 10, tyX6, rfl, tyX6_ok, nmX6, rfl, Or.inr ⟨rfl, rfl, rfl⟩⟩
theorem fo_RX6_24 : FOK WB RX6 24 7 9 := ⟨RX6, TX6, 10, "RuleForge$Reducer", rfl, uw_7, by decide, (wb_2 113 rfl rfl), Or.inl rfl⟩
theorem po_RX6_1_7_9_2 : POK RX6 true 7 9 2 := ⟨RX6, TX6, 10, tyX6, rfl, tyX6_ok, nmX6, rfl, Or.inr ⟨rfl, rfl, rfl⟩⟩
theorem fo_RX6_27 : FOK WB RX6 27 3 0 := ⟨RX2, TX2, 5, "RuleForge$Laws", rfl, uw_3, by decide, (wb_1 181 rfl rfl), Or.inl rfl⟩
theorem fo_RX6_33 : FOK WB RX6 33 7 0 := ⟨RX6, TX6, 10, "RuleForge$Reducer", rfl, uw_7, by decide, (wb_2 97 rfl rfl), Or.inl rfl⟩
theorem po_RX6_1_7_0_2 : POK RX6 true 7 0 2 := ⟨RX6, TX6, 10, tyX6, rfl, tyX6_ok, nmX6, rfl, Or.inr ⟨rfl, rfl, rfl⟩⟩
theorem fo_RX6_34 : FOK WB RX6 34 7 1 := ⟨RX6, TX6, 10, "RuleForge$Reducer", rfl, uw_7, by decide, (wb_2 99 rfl rfl), Or.inl rfl⟩
theorem po_RX6_1_7_1_2 : POK RX6 true 7 1 2 := ⟨RX6, TX6, 10, tyX6, rfl, tyX6_ok, nmX6, rfl, Or.inr ⟨rfl, rfl, rfl⟩⟩
theorem fo_RX6_38 : FOK WB RX6 38 7 2 := ⟨RX6, TX6, 10, "RuleForge$Reducer", rfl, uw_7, by decide, (wb_2 102 rfl rfl), Or.inl rfl⟩
theorem po_RX6_1_7_2_2 : POK RX6 true 7 2 2 := ⟨RX6, TX6, 10, tyX6, rfl, tyX6_ok, nmX6, rfl, Or.inr ⟨rfl, rfl, rfl⟩⟩
theorem fo_RX1_9 : FOK WB RX1 9 2 4 := ⟨RX1, TX1, 9, "RuleForge$Explorer", rfl, uw_2, by decide, (wb_2 207 rfl rfl), Or.inl rfl⟩
theorem po_RX1_1_2_4_2 : POK RX1 true 2 4 2 := ⟨RX1, TX1, 9, tyX1, rfl, tyX1_ok, nmX1, rfl, Or.inr ⟨rfl, rfl, rfl⟩⟩
theorem fo_RX1_15 : FOK WB RX1 15 2 5 := ⟨RX1, TX1, 9, "RuleForge$Explorer", rfl, uw_2, by decide, (wb_2 209 rfl rfl), Or.inl rfl⟩
theorem po_RX1_1_2_5_2 : POK RX1 true 2 5 2 := ⟨RX1, TX1, 9, tyX1, rfl, tyX1_ok, nmX1, rfl, Or.inr ⟨rfl, rfl, rfl⟩⟩
theorem fo_RX1_18 : FOK WB RX1 18 2 6 := ⟨RX1, TX1, 9, "RuleForge$Explorer", rfl, uw_2, by decide, (wb_2 211 rfl rfl), Or.inl rfl⟩
theorem po_RX1_1_2_6_2 : POK RX1 true 2 6 2 := ⟨RX1, TX1, 9, tyX1, rfl, tyX1_ok, nmX1, rfl, Or.inr ⟨rfl, rfl, rfl⟩⟩
theorem fo_RX1_21 : FOK WB RX1 21 10 0 := ⟨RX9, TX9, 15, "RuleForge$Walker", rfl, uw_10, by decide, (wb_2 142 rfl rfl), Or.inl rfl⟩
theorem fo_RX1_27 : FOK WB RX1 27 2 0 := ⟨RX1, TX1, 9, "RuleForge$Explorer", rfl, uw_2, by decide, (wb_2 201 rfl rfl), Or.inl rfl⟩
theorem po_RX1_1_2_0_2 : POK RX1 true 2 0 2 := ⟨RX1, TX1, 9, tyX1, rfl, tyX1_ok, nmX1, rfl, Or.inr ⟨rfl, rfl, rfl⟩⟩
theorem fo_RX1_28 : FOK WB RX1 28 2 1 := ⟨RX1, TX1, 9, "RuleForge$Explorer", rfl, uw_2, by decide, (wb_2 202 rfl rfl), Or.inl rfl⟩
theorem po_RX1_1_2_1_2 : POK RX1 true 2 1 2 := ⟨RX1, TX1, 9, tyX1, rfl, tyX1_ok, nmX1, rfl, Or.inr ⟨rfl, rfl, rfl⟩⟩
theorem fo_RX5_11 : FOK WB RX5 11 6 4 := ⟨RX5, TX5, 9, "RuleForge$Plans", rfl, uw_6, by decide, (wb_3 4 rfl rfl), Or.inl rfl⟩
theorem po_RX5_1_6_4_2 : POK RX5 true 6 4 2 := ⟨RX5, TX5, 9, tyX5, rfl, tyX5_ok, nmX5, rfl, Or.inr ⟨rfl, rfl, rfl⟩⟩
theorem fo_RX5_15 : FOK WB RX5 15 6 5 := ⟨RX5, TX5, 9, "RuleForge$Plans", rfl, uw_6, by decide, (wb_3 5 rfl rfl), Or.inl rfl⟩
theorem po_RX5_1_6_5_2 : POK RX5 true 6 5 2 := ⟨RX5, TX5, 9, tyX5, rfl, tyX5_ok, nmX5, rfl, Or.inr ⟨rfl, rfl, rfl⟩⟩
theorem fo_RX5_18 : FOK WB RX5 18 6 6 := ⟨RX5, TX5, 9, "RuleForge$Plans", rfl, uw_6, by decide, (wb_3 6 rfl rfl), Or.inl rfl⟩
theorem po_RX5_1_6_6_2 : POK RX5 true 6 6 2 := ⟨RX5, TX5, 9, tyX5, rfl, tyX5_ok, nmX5, rfl, Or.inr ⟨rfl, rfl, rfl⟩⟩
theorem fo_RX5_21 : FOK WB RX5 21 10 0 := ⟨RX9, TX9, 15, "RuleForge$Walker", rfl, uw_10, by decide, (wb_2 143 rfl rfl), Or.inl rfl⟩
theorem fo_RX5_27 : FOK WB RX5 27 6 0 := ⟨RX5, TX5, 9, "RuleForge$Plans", rfl, uw_6, by decide, (wb_2 239 rfl rfl), Or.inl rfl⟩
theorem po_RX5_1_6_0_2 : POK RX5 true 6 0 2 := ⟨RX5, TX5, 9, tyX5, rfl, tyX5_ok, nmX5, rfl, Or.inr ⟨rfl, rfl, rfl⟩⟩
theorem fo_RX5_28 : FOK WB RX5 28 6 1 := ⟨RX5, TX5, 9, "RuleForge$Plans", rfl, uw_6, by decide, (wb_3 0 rfl rfl), Or.inl rfl⟩
theorem po_RX5_1_6_1_2 : POK RX5 true 6 1 2 := ⟨RX5, TX5, 9, tyX5, rfl, tyX5_ok, nmX5, rfl, Or.inr ⟨rfl, rfl, rfl⟩⟩
theorem fo_RX9_9 : FOK WB RX9 9 7 0 := ⟨RX6, TX6, 10, "RuleForge$Reducer", rfl, uw_7, by decide, (wb_2 95 rfl rfl), Or.inl rfl⟩
theorem fo_RX9_15 : FOK WB RX9 15 10 0 := ⟨RX9, TX9, 15, "RuleForge$Walker", rfl, uw_10, by decide, (wb_2 141 rfl rfl), Or.inl rfl⟩
theorem po_RX9_1_10_0_2 : POK RX9 true 10 0 2 := ⟨RX9, TX9, 15, tyX9, rfl, tyX9_ok, nmX9, rfl, Or.inr ⟨rfl, rfl, rfl⟩⟩
theorem fo_RX9_18 : FOK WB RX9 18 10 1 := ⟨RX9, TX9, 15, "RuleForge$Walker", rfl, uw_10, by decide, (wb_2 144 rfl rfl), Or.inl rfl⟩
theorem po_RX9_1_10_1_2 : POK RX9 true 10 1 2 := ⟨RX9, TX9, 15, tyX9, rfl, tyX9_ok, nmX9, rfl, Or.inr ⟨rfl, rfl, rfl⟩⟩
theorem fo_RX9_22 : FOK WB RX9 22 7 1 := ⟨RX6, TX6, 10, "RuleForge$Reducer", rfl, uw_7, by decide, (wb_2 98 rfl rfl), Or.inl rfl⟩
theorem fo_RX9_26 : FOK WB RX9 26 10 2 := ⟨RX9, TX9, 15, "RuleForge$Walker", rfl, uw_10, by decide, (wb_2 146 rfl rfl), Or.inl rfl⟩
theorem po_RX9_1_10_2_2 : POK RX9 true 10 2 2 := ⟨RX9, TX9, 15, tyX9, rfl, tyX9_ok, nmX9, rfl, Or.inr ⟨rfl, rfl, rfl⟩⟩
theorem fo_RX9_27 : FOK WB RX9 27 7 2 := ⟨RX6, TX6, 10, "RuleForge$Reducer", rfl, uw_7, by decide, (wb_2 101 rfl rfl), Or.inl rfl⟩
theorem fo_RX9_31 : FOK WB RX9 31 10 3 := ⟨RX9, TX9, 15, "RuleForge$Walker", rfl, uw_10, by decide, (wb_2 148 rfl rfl), Or.inl rfl⟩
theorem po_RX9_1_10_3_2 : POK RX9 true 10 3 2 := ⟨RX9, TX9, 15, tyX9, rfl, tyX9_ok, nmX9, rfl, Or.inr ⟨rfl, rfl, rfl⟩⟩
theorem fo_RX17_493 : FOK WB RX17 493 18 4 := ⟨RX17, TX17, 45, "RuleForgeModel", rfl, uw_18, by decide, (wb_7 107 rfl rfl), Or.inl rfl⟩
theorem fo_RX17_114 : FOK WB RX17 114 18 0 := ⟨RX17, TX17, 45, "RuleForgeModel", rfl, uw_18, by decide, (wb_7 103 rfl rfl), Or.inl rfl⟩
theorem po_RX17_0_18_0_0 : POK RX17 false 18 0 0 := ⟨RX17, TX17, 45, tyX17, rfl, tyX17_ok, nmX17, rfl, Or.inl rfl⟩
theorem po_RX17_0_18_4_0 : POK RX17 false 18 4 0 := ⟨RX17, TX17, 45, tyX17, rfl, tyX17_ok, nmX17, rfl, Or.inl rfl⟩
theorem fo_RX2_9 : FOK WB RX2 9 3 4 := ⟨RX2, TX2, 5, "RuleForge$Laws", rfl, uw_3, by decide, (wb_1 190 rfl rfl), Or.inl rfl⟩
theorem po_RX2_1_3_4_2 : POK RX2 true 3 4 2 := ⟨RX2, TX2, 5, tyX2, rfl, tyX2_ok, nmX2, rfl, Or.inr ⟨rfl, rfl, rfl⟩⟩
theorem fo_RX2_15 : FOK WB RX2 15 3 0 := ⟨RX2, TX2, 5, "RuleForge$Laws", rfl, uw_3, by decide, (wb_1 180 rfl rfl), Or.inl rfl⟩
theorem po_RX2_1_3_0_2 : POK RX2 true 3 0 2 := ⟨RX2, TX2, 5, tyX2, rfl, tyX2_ok, nmX2, rfl, Or.inr ⟨rfl, rfl, rfl⟩⟩
theorem fo_RX2_19 : FOK WB RX2 19 9 0 := ⟨RX8, TX8, 11, "RuleForge$Terms", rfl, uw_9, by decide, (wb_1 115 rfl rfl), Or.inl rfl⟩
theorem fo_RX2_25 : FOK WB RX2 25 3 1 := ⟨RX2, TX2, 5, "RuleForge$Laws", rfl, uw_3, by decide, (wb_1 182 rfl rfl), Or.inl rfl⟩
theorem po_RX2_1_3_1_2 : POK RX2 true 3 1 2 := ⟨RX2, TX2, 5, tyX2, rfl, tyX2_ok, nmX2, rfl, Or.inr ⟨rfl, rfl, rfl⟩⟩
theorem at_RX10_97_1 : ∀ v ∈ vx_atS RX10 97 (ename 1) XN, v ∈ WB ∨ v ∈ AD := at_of (by decide +kernel) (by decide +kernel)
theorem at_RX10_115_2 : ∀ v ∈ vx_atS RX10 115 (ename 2) XN, v ∈ WB ∨ v ∈ AD := at_of (by decide +kernel) (by decide +kernel)
theorem fo_RX10_140 : FOK WB RX10 140 8 1 := ⟨RX7, TX7, 11, "RuleForge$Signature", rfl, uw_8, by decide, (wb_1 55 rfl rfl), Or.inl rfl⟩
theorem fo_RX7_49 : FOK WB RX7 49 8 1 := ⟨RX7, TX7, 11, "RuleForge$Signature", rfl, uw_8, by decide, (wb_1 54 rfl rfl), Or.inl rfl⟩
theorem fo_RX10_196 : FOK WB RX10 196 11 9 := ⟨RX10, TX10, 10, "RuleForge", rfl, uw_11, by decide, (wb_3 90 rfl rfl), Or.inl rfl⟩
theorem at_RX10_86_0 : ∀ v ∈ vx_atS RX10 86 (ename 0) XN, v ∈ WB ∨ v ∈ AD := at_of (by decide +kernel) (by decide +kernel)
theorem po_RJx4a65c_0_0_1_2 : POK RJx4a65c false 0 1 2 := ⟨RJx4a65c, TJx4a65c, 3, tyJx4a65c, rfl, tyJx4a65c_ok, nmJx4a65c, rfl, Or.inl rfl⟩
theorem fo_RJx4a65c_48 : FOK WB RJx4a65c 48 0 2 := ⟨RJx4a65c, TJx4a65c, 3, "java/util/ArrayList", rfl, uw_0, by decide, (wb_7 61 rfl rfl), Or.inl rfl⟩
theorem po_RJx4a65c_0_0_2_0 : POK RJx4a65c false 0 2 0 := ⟨RJx4a65c, TJx4a65c, 3, tyJx4a65c, rfl, tyJx4a65c_ok, nmJx4a65c, rfl, Or.inl rfl⟩
theorem fo_RJx4a65c_63 : FOK WB RJx4a65c 63 0 0 := ⟨RJx4a65c, TJx4a65c, 3, "java/util/ArrayList", rfl, uw_0, by decide, (wb_7 63 rfl rfl), Or.inr (wb_7 64 rfl rfl)⟩
theorem po_RJx4a65c_0_0_0_0 : POK RJx4a65c false 0 0 0 := ⟨RJx4a65c, TJx4a65c, 3, tyJx4a65c, rfl, tyJx4a65c_ok, nmJx4a65c, rfl, Or.inl rfl⟩
theorem fo_RX10_160 : FOK WB RX10 160 11 8 := ⟨RX10, TX10, 10, "RuleForge", rfl, uw_11, by decide, (wb_3 89 rfl rfl), Or.inl rfl⟩
theorem po_RX10_0_11_8_0 : POK RX10 false 11 8 0 := ⟨RX10, TX10, 10, tyX10, rfl, tyX10_ok, nmX10, rfl, Or.inl rfl⟩
theorem po_RX7_0_8_1_0 : POK RX7 false 8 1 0 := ⟨RX7, TX7, 11, tyX7, rfl, tyX7_ok, nmX7, rfl, Or.inl rfl⟩
theorem po_RX8_0_9_2_0 : POK RX8 false 9 2 0 := ⟨RX8, TX8, 11, tyX8, rfl, tyX8_ok, nmX8, rfl, Or.inl rfl⟩
theorem fo_RX8_41 : FOK WB RX8 41 9 4 := ⟨RX8, TX8, 11, "RuleForge$Terms", rfl, uw_9, by decide, (wb_1 135 rfl rfl), Or.inl rfl⟩
theorem po_RX8_0_9_4_0 : POK RX8 false 9 4 0 := ⟨RX8, TX8, 11, tyX8, rfl, tyX8_ok, nmX8, rfl, Or.inl rfl⟩
theorem po_RX8_0_9_8_0 : POK RX8 false 9 8 0 := ⟨RX8, TX8, 11, tyX8, rfl, tyX8_ok, nmX8, rfl, Or.inl rfl⟩
theorem fo_RX8_44 : FOK WB RX8 44 9 10 := ⟨RX8, TX8, 11, "RuleForge$Terms", rfl, uw_9, by decide, (wb_1 149 rfl rfl), Or.inl rfl⟩
theorem po_RX8_0_9_10_1 : POK RX8 false 9 10 1 := ⟨RX8, TX8, 11, tyX8, rfl, tyX8_ok, nmX8, rfl, Or.inl rfl⟩
theorem fo_RX10_382 : FOK WB RX10 382 1 12 := ⟨RX0, TX0, 14, "RuleForge$CriticalPairs", rfl, uw_1, by decide, (wb_3 49 rfl rfl), Or.inl rfl⟩
theorem po_RX10_0_1_12_0 : POK RX10 false 1 12 0 := ⟨RX0, TX0, 14, tyX0, rfl, tyX0_ok, nmX0, rfl, Or.inl rfl⟩
theorem fo_RX10_361 : FOK WB RX10 361 1 4 := ⟨RX0, TX0, 14, "RuleForge$CriticalPairs", rfl, uw_1, by decide, (wb_3 40 rfl rfl), Or.inl rfl⟩
theorem fo_RX17_321 : FOK WB RX17 321 18 27 := ⟨RX17, TX17, 45, "RuleForgeModel", rfl, uw_18, by decide, (wb_7 130 rfl rfl), Or.inl rfl⟩
theorem po_RX17_0_18_27_0 : POK RX17 false 18 27 0 := ⟨RX17, TX17, 45, tyX17, rfl, tyX17_ok, nmX17, rfl, Or.inl rfl⟩
theorem fo_RX17_465 : FOK WB RX17 465 18 43 := ⟨RX17, TX17, 45, "RuleForgeModel", rfl, uw_18, by decide, (wb_7 146 rfl rfl), Or.inl rfl⟩
theorem fo_RX17_528 : FOK WB RX17 528 18 1 := ⟨RX17, TX17, 45, "RuleForgeModel", rfl, uw_18, by decide, (wb_7 104 rfl rfl), Or.inl rfl⟩
theorem fo_RX14_7 : FOK WB RX14 7 15 0 := ⟨RX14, TX14, 6, "RuleForgeModel$Plan", rfl, uw_15, by decide, (wb_9 144 rfl rfl), Or.inl rfl⟩
theorem po_RX14_1_15_0_0 : POK RX14 true 15 0 0 := ⟨RX14, TX14, 6, tyX14, rfl, tyX14_ok, nmX14, rfl, Or.inr ⟨rfl, rfl, rfl⟩⟩
theorem fo_RX14_13 : FOK WB RX14 13 15 1 := ⟨RX14, TX14, 6, "RuleForgeModel$Plan", rfl, uw_15, by decide, (wb_9 146 rfl rfl), Or.inl rfl⟩
theorem po_RX14_1_15_1_0 : POK RX14 true 15 1 0 := ⟨RX14, TX14, 6, tyX14, rfl, tyX14_ok, nmX14, rfl, Or.inr ⟨rfl, rfl, rfl⟩⟩
theorem fo_RX14_16 : FOK WB RX14 16 15 2 := ⟨RX14, TX14, 6, "RuleForgeModel$Plan", rfl, uw_15, by decide, (wb_9 148 rfl rfl), Or.inl rfl⟩
theorem po_RX14_1_15_2_2 : POK RX14 true 15 2 2 := ⟨RX14, TX14, 6, tyX14, rfl, tyX14_ok, nmX14, rfl, Or.inr ⟨rfl, rfl, rfl⟩⟩
theorem fo_RX14_20 : FOK WB RX14 20 15 3 := ⟨RX14, TX14, 6, "RuleForgeModel$Plan", rfl, uw_15, by decide, (wb_9 150 rfl rfl), Or.inl rfl⟩
theorem po_RX14_1_15_3_2 : POK RX14 true 15 3 2 := ⟨RX14, TX14, 6, tyX14, rfl, tyX14_ok, nmX14, rfl, Or.inr ⟨rfl, rfl, rfl⟩⟩
theorem fo_RX14_24 : FOK WB RX14 24 15 4 := ⟨RX14, TX14, 6, "RuleForgeModel$Plan", rfl, uw_15, by decide, (wb_9 152 rfl rfl), Or.inl rfl⟩
theorem po_RX14_1_15_4_2 : POK RX14 true 15 4 2 := ⟨RX14, TX14, 6, tyX14, rfl, tyX14_ok, nmX14, rfl, Or.inr ⟨rfl, rfl, rfl⟩⟩
theorem fo_RX14_27 : FOK WB RX14 27 15 5 := ⟨RX14, TX14, 6, "RuleForgeModel$Plan", rfl, uw_15, by decide, (wb_9 154 rfl rfl), Or.inl rfl⟩
theorem po_RX14_1_15_5_0 : POK RX14 true 15 5 0 := ⟨RX14, TX14, 6, tyX14, rfl, tyX14_ok, nmX14, rfl, Or.inr ⟨rfl, rfl, rfl⟩⟩
theorem fo_RX0_51 : FOK WB RX0 51 1 8 := ⟨RX0, TX0, 14, "RuleForge$CriticalPairs", rfl, uw_1, by decide, (wb_3 44 rfl rfl), Or.inl rfl⟩
theorem fo_RX0_55 : FOK WB RX0 55 3 2 := ⟨RX2, TX2, 5, "RuleForge$Laws", rfl, uw_3, by decide, (wb_1 184 rfl rfl), Or.inl rfl⟩
theorem fo_RX7_45 : FOK WB RX7 45 8 0 := ⟨RX7, TX7, 11, "RuleForge$Signature", rfl, uw_8, by decide, (wb_1 53 rfl rfl), Or.inl rfl⟩
theorem po_RX17_0_18_1_0 : POK RX17 false 18 1 0 := ⟨RX17, TX17, 45, tyX17, rfl, tyX17_ok, nmX17, rfl, Or.inl rfl⟩
theorem no_RX17_393 : NOK WB RX17 393 15 [0, 0, 2, 2, 2, 0] := ⟨RX14, TX14, 6, tyX14, rfl, uw_15, tyX14_ok, (wb_9 138 rfl rfl), (wb_9 139 rfl rfl), (wb_1 33 rfl rfl), rfl, nok_fk rfl⟩
theorem fo_RX5_36 : FOK WB RX5 36 6 3 := ⟨RX5, TX5, 9, "RuleForge$Plans", rfl, uw_6, by decide, (wb_3 3 rfl rfl), Or.inl rfl⟩
theorem fo_RX5_40 : FOK WB RX5 40 6 2 := ⟨RX5, TX5, 9, "RuleForge$Plans", rfl, uw_6, by decide, (wb_3 1 rfl rfl), Or.inl rfl⟩
theorem po_RX5_0_6_2_0 : POK RX5 false 6 2 0 := ⟨RX5, TX5, 9, tyX5, rfl, tyX5_ok, nmX5, rfl, Or.inl rfl⟩
theorem po_RX5_0_6_3_0 : POK RX5 false 6 3 0 := ⟨RX5, TX5, 9, tyX5, rfl, tyX5_ok, nmX5, rfl, Or.inl rfl⟩
theorem fo_RX10_78 : FOK WB RX10 78 8 0 := ⟨RX7, TX7, 11, "RuleForge$Signature", rfl, uw_8, by decide, (wb_1 52 rfl rfl), Or.inl rfl⟩
theorem po_RX10_0_8_0_0 : POK RX10 false 8 0 0 := ⟨RX7, TX7, 11, tyX7, rfl, tyX7_ok, nmX7, rfl, Or.inl rfl⟩
theorem fo_RX10_320 : FOK WB RX10 320 6 2 := ⟨RX5, TX5, 9, "RuleForge$Plans", rfl, uw_6, by decide, (wb_3 2 rfl rfl), Or.inl rfl⟩
theorem fo_RX10_290 : FOK WB RX10 290 2 2 := ⟨RX1, TX1, 9, "RuleForge$Explorer", rfl, uw_2, by decide, (wb_2 204 rfl rfl), Or.inl rfl⟩
theorem fo_RX10_259 : FOK WB RX10 259 3 3 := ⟨RX2, TX2, 5, "RuleForge$Laws", rfl, uw_3, by decide, (wb_1 189 rfl rfl), Or.inl rfl⟩
theorem fo_RX10_262 : FOK WB RX10 262 3 2 := ⟨RX2, TX2, 5, "RuleForge$Laws", rfl, uw_3, by decide, (wb_1 186 rfl rfl), Or.inl rfl⟩
theorem fo_RX17_357 : FOK WB RX17 357 18 19 := ⟨RX17, TX17, 45, "RuleForgeModel", rfl, uw_18, by decide, (wb_7 122 rfl rfl), Or.inl rfl⟩
theorem fo_RX10_286 : FOK WB RX10 286 2 3 := ⟨RX1, TX1, 9, "RuleForge$Explorer", rfl, uw_2, by decide, (wb_2 206 rfl rfl), Or.inl rfl⟩
theorem ac_int : Jvm.Cond.arrayClass (newarray.typeOf .int) ∈ WB := (wb_1 108 rfl rfl)
theorem ac_boolean : Jvm.Cond.arrayClass (newarray.typeOf .boolean) ∈ WB := (wb_1 205 rfl rfl)
theorem ac_long : Jvm.Cond.arrayClass (newarray.typeOf .long) ∈ WB := (wb_3 80 rfl rfl)
theorem ob_1 : Jvm.Cond.instanceMethod objectInit ∈ WB := (wb_1 41 rfl rfl)
theorem ob_2 : Jvm.Cond.code objectInit ⟨#[0xb1]⟩ 1 none ∈ WB := (wb_1 42 rfl rfl)
theorem cp_1 : Jvm.Cond.native arraycopyName ∈ WB := (wb_3 186 rfl rfl)
theorem cp_2 : Jvm.Cond.static arraycopyName ∈ WB := (wb_3 185 rfl rfl)
theorem cp_3 : Jvm.Cond.initialized "java/lang/System" ∈ WB := (wb_1 24 rfl rfl)
theorem mx_1 : Jvm.Cond.static Lib.Math.max.name ∈ WB := (wb_4 148 rfl rfl)
theorem mx_2 : Jvm.Cond.initialized "java/lang/Math" ∈ WB := (wb_1 26 rfl rfl)
theorem mx_3 : Jvm.Cond.code Lib.Math.max.name Lib.Math.max.code 2 (some .int) ∈ WB := (wb_4 149 rfl rfl)
theorem tb_L_law : TB[0]? = some (md_L_law, tl_L_law) := rfl
theorem ho_L_law : HOK WB md_L_law := fun _ h => absurd h List.not_mem_nil
theorem tb_X17_init : TB[1]? = some (md_X17_init, tl_X17_init) := rfl
theorem pr_X17_init : (parseMethodDescriptor (mY md_X17_init).desc).map (fun d => d.parameters.length) = some (mN md_X17_init - 1) := by decide +kernel
theorem in_X17_init : Jvm.Cond.instanceMethod (mY md_X17_init) ∈ WB := (wb_7 43 rfl rfl)
theorem ho_X17_init : HOK WB md_X17_init := fun _ h => absurd h List.not_mem_nil
theorem mo_X17_init : MOK WB md_X17_init := ⟨by decide, (wb_7 44 rfl rfl), (wb_1 13 rfl rfl), by decide +kernel, ⟨by decide +kernel, by decide +kernel⟩, rfl, (fun _ => rfl), by decide, ho_X17_init⟩
theorem tb_J7_fill_53178 : TB[2]? = some (md_J7_fill_53178, tl_J7_fill_53178) := rfl
theorem pr_J7_fill_53178 : (parseMethodDescriptor (mY md_J7_fill_53178).desc).map (fun d => d.parameters.length) = some (mN md_J7_fill_53178) := by decide +kernel
theorem st_J7_fill_53178 : Jvm.Cond.static (mY md_J7_fill_53178) ∈ WB := (wb_1 50 rfl rfl)
theorem ho_J7_fill_53178 : HOK WB md_J7_fill_53178 := fun _ h => absurd h List.not_mem_nil
theorem mo_J7_fill_53178 : MOK WB md_J7_fill_53178 := ⟨by decide, (wb_1 51 rfl rfl), (wb_1 3 rfl rfl), by decide +kernel, ⟨by decide +kernel, by decide +kernel⟩, rfl, (fun h => by cases h), by decide, ho_J7_fill_53178⟩
theorem tb_X16_init : TB[3]? = some (md_X16_init, tl_X16_init) := rfl
theorem pr_X16_init : (parseMethodDescriptor (mY md_X16_init).desc).map (fun d => d.parameters.length) = some (mN md_X16_init - 1) := by decide +kernel
theorem in_X16_init : Jvm.Cond.instanceMethod (mY md_X16_init) ∈ WB := (wb_7 76 rfl rfl)
theorem ho_X16_init : HOK WB md_X16_init := fun _ h => absurd h List.not_mem_nil
theorem mo_X16_init : MOK WB md_X16_init := ⟨by decide, (wb_7 77 rfl rfl), (wb_1 17 rfl rfl), by decide +kernel, ⟨by decide +kernel, by decide +kernel⟩, rfl, (fun _ => rfl), by decide, ho_X16_init⟩
theorem tb_X8_init : TB[4]? = some (md_X8_init, tl_X8_init) := rfl
theorem pr_X8_init : (parseMethodDescriptor (mY md_X8_init).desc).map (fun d => d.parameters.length) = some (mN md_X8_init - 1) := by decide +kernel
theorem in_X8_init : Jvm.Cond.instanceMethod (mY md_X8_init) ∈ WB := (wb_1 112 rfl rfl)
theorem ho_X8_init : HOK WB md_X8_init := fun _ h => absurd h List.not_mem_nil
theorem mo_X8_init : MOK WB md_X8_init := ⟨by decide, (wb_1 113 rfl rfl), (wb_1 4 rfl rfl), by decide +kernel, ⟨by decide +kernel, by decide +kernel⟩, rfl, (fun _ => rfl), by decide, ho_X8_init⟩
theorem tb_X7_init : TB[5]? = some (md_X7_init, tl_X7_init) := rfl
theorem pr_X7_init : (parseMethodDescriptor (mY md_X7_init).desc).map (fun d => d.parameters.length) = some (mN md_X7_init - 1) := by decide +kernel
theorem in_X7_init : Jvm.Cond.instanceMethod (mY md_X7_init) ∈ WB := (wb_1 46 rfl rfl)
theorem ho_X7_init : HOK WB md_X7_init := fun _ h => absurd h List.not_mem_nil
theorem mo_X7_init : MOK WB md_X7_init := ⟨by decide, (wb_1 47 rfl rfl), (wb_1 2 rfl rfl), by decide +kernel, ⟨by decide +kernel, by decide +kernel⟩, rfl, (fun _ => rfl), by decide, ho_X7_init⟩
theorem tb_X10_init : TB[6]? = some (md_X10_init, tl_X10_init) := rfl
theorem pr_X10_init : (parseMethodDescriptor (mY md_X10_init).desc).map (fun d => d.parameters.length) = some (mN md_X10_init - 1) := by decide +kernel
theorem in_X10_init : Jvm.Cond.instanceMethod (mY md_X10_init) ∈ WB := (wb_1 38 rfl rfl)
theorem ho_X10_init : HOK WB md_X10_init := fun _ h => absurd h List.not_mem_nil
theorem mo_X10_init : MOK WB md_X10_init := ⟨by decide, (wb_1 39 rfl rfl), (wb_1 1 rfl rfl), by decide +kernel, ⟨by decide +kernel, by decide +kernel⟩, rfl, (fun _ => rfl), by decide, ho_X10_init⟩
theorem tb_X4_init : TB[7]? = some (md_X4_init, tl_X4_init) := rfl
theorem pr_X4_init : (parseMethodDescriptor (mY md_X4_init).desc).map (fun d => d.parameters.length) = some (mN md_X4_init - 1) := by decide +kernel
theorem in_X4_init : Jvm.Cond.instanceMethod (mY md_X4_init) ∈ WB := (wb_1 215 rfl rfl)
theorem ho_X4_init : HOK WB md_X4_init := fun _ h => absurd h List.not_mem_nil
theorem mo_X4_init : MOK WB md_X4_init := ⟨by decide, (wb_1 216 rfl rfl), (wb_1 7 rfl rfl), by decide +kernel, ⟨by decide +kernel, by decide +kernel⟩, rfl, (fun _ => rfl), by decide, ho_X4_init⟩
theorem tb_X3_init : TB[8]? = some (md_X3_init, tl_X3_init) := rfl
theorem pr_X3_init : (parseMethodDescriptor (mY md_X3_init).desc).map (fun d => d.parameters.length) = some (mN md_X3_init - 1) := by decide +kernel
theorem in_X3_init : Jvm.Cond.instanceMethod (mY md_X3_init) ∈ WB := (wb_1 209 rfl rfl)
theorem ho_X3_init : HOK WB md_X3_init := fun _ h => absurd h List.not_mem_nil
theorem mo_X3_init : MOK WB md_X3_init := ⟨by decide, (wb_1 210 rfl rfl), (wb_1 6 rfl rfl), by decide +kernel, ⟨by decide +kernel, by decide +kernel⟩, rfl, (fun _ => rfl), by decide, ho_X3_init⟩
theorem tb_X0_init : TB[9]? = some (md_X0_init, tl_X0_init) := rfl
theorem pr_X0_init : (parseMethodDescriptor (mY md_X0_init).desc).map (fun d => d.parameters.length) = some (mN md_X0_init - 1) := by decide +kernel
theorem in_X0_init : Jvm.Cond.instanceMethod (mY md_X0_init) ∈ WB := (wb_3 32 rfl rfl)
theorem ho_X0_init : HOK WB md_X0_init := fun _ h => absurd h List.not_mem_nil
theorem mo_X0_init : MOK WB md_X0_init := ⟨by decide, (wb_3 33 rfl rfl), (wb_1 12 rfl rfl), by decide +kernel, ⟨by decide +kernel, by decide +kernel⟩, rfl, (fun _ => rfl), by decide, ho_X0_init⟩
theorem tb_Jxc12de_init_da8c8 : TB[10]? = some (md_Jxc12de_init_da8c8, tl_Jxc12de_init_da8c8) := rfl
theorem pr_Jxc12de_init_da8c8 : (parseMethodDescriptor (mY md_Jxc12de_init_da8c8).desc).map (fun d => d.parameters.length) = some (mN md_Jxc12de_init_da8c8 - 1) := by decide +kernel
theorem in_Jxc12de_init_da8c8 : Jvm.Cond.instanceMethod (mY md_Jxc12de_init_da8c8) ∈ WB := (wb_7 52 rfl rfl)
theorem ho_Jxc12de_init_da8c8 : HOK WB md_Jxc12de_init_da8c8 := fun _ h => absurd h List.not_mem_nil
theorem mo_Jxc12de_init_da8c8 : MOK WB md_Jxc12de_init_da8c8 := ⟨by decide, (wb_7 53 rfl rfl), (wb_1 15 rfl rfl), by decide +kernel, ⟨by decide +kernel, by decide +kernel⟩, rfl, (fun _ => rfl), by decide, ho_Jxc12de_init_da8c8⟩
theorem tb_Jx4a65c_init_da8c8 : TB[11]? = some (md_Jx4a65c_init_da8c8, tl_Jx4a65c_init_da8c8) := rfl
theorem pr_Jx4a65c_init_da8c8 : (parseMethodDescriptor (mY md_Jx4a65c_init_da8c8).desc).map (fun d => d.parameters.length) = some (mN md_Jx4a65c_init_da8c8 - 1) := by decide +kernel
theorem in_Jx4a65c_init_da8c8 : Jvm.Cond.instanceMethod (mY md_Jx4a65c_init_da8c8) ∈ WB := (wb_7 49 rfl rfl)
theorem ho_Jx4a65c_init_da8c8 : HOK WB md_Jx4a65c_init_da8c8 := fun _ h => absurd h List.not_mem_nil
theorem mo_Jx4a65c_init_da8c8 : MOK WB md_Jx4a65c_init_da8c8 := ⟨by decide, (wb_7 50 rfl rfl), (wb_1 16 rfl rfl), by decide +kernel, ⟨by decide +kernel, by decide +kernel⟩, rfl, (fun _ => rfl), by decide, ho_Jx4a65c_init_da8c8⟩
theorem tb_X6_init : TB[12]? = some (md_X6_init, tl_X6_init) := rfl
theorem pr_X6_init : (parseMethodDescriptor (mY md_X6_init).desc).map (fun d => d.parameters.length) = some (mN md_X6_init - 1) := by decide +kernel
theorem in_X6_init : Jvm.Cond.instanceMethod (mY md_X6_init) ∈ WB := (wb_2 92 rfl rfl)
theorem ho_X6_init : HOK WB md_X6_init := fun _ h => absurd h List.not_mem_nil
theorem mo_X6_init : MOK WB md_X6_init := ⟨by decide, (wb_2 93 rfl rfl), (wb_1 8 rfl rfl), by decide +kernel, ⟨by decide +kernel, by decide +kernel⟩, rfl, (fun _ => rfl), by decide, ho_X6_init⟩
theorem tb_X1_init : TB[13]? = some (md_X1_init, tl_X1_init) := rfl
theorem pr_X1_init : (parseMethodDescriptor (mY md_X1_init).desc).map (fun d => d.parameters.length) = some (mN md_X1_init - 1) := by decide +kernel
theorem in_X1_init : Jvm.Cond.instanceMethod (mY md_X1_init) ∈ WB := (wb_2 198 rfl rfl)
theorem ho_X1_init : HOK WB md_X1_init := fun _ h => absurd h List.not_mem_nil
theorem mo_X1_init : MOK WB md_X1_init := ⟨by decide, (wb_2 199 rfl rfl), (wb_1 10 rfl rfl), by decide +kernel, ⟨by decide +kernel, by decide +kernel⟩, rfl, (fun _ => rfl), by decide, ho_X1_init⟩
theorem tb_X5_init : TB[14]? = some (md_X5_init, tl_X5_init) := rfl
theorem pr_X5_init : (parseMethodDescriptor (mY md_X5_init).desc).map (fun d => d.parameters.length) = some (mN md_X5_init - 1) := by decide +kernel
theorem in_X5_init : Jvm.Cond.instanceMethod (mY md_X5_init) ∈ WB := (wb_2 236 rfl rfl)
theorem ho_X5_init : HOK WB md_X5_init := fun _ h => absurd h List.not_mem_nil
theorem mo_X5_init : MOK WB md_X5_init := ⟨by decide, (wb_2 237 rfl rfl), (wb_1 11 rfl rfl), by decide +kernel, ⟨by decide +kernel, by decide +kernel⟩, rfl, (fun _ => rfl), by decide, ho_X5_init⟩
theorem tb_X9_init : TB[15]? = some (md_X9_init, tl_X9_init) := rfl
theorem pr_X9_init : (parseMethodDescriptor (mY md_X9_init).desc).map (fun d => d.parameters.length) = some (mN md_X9_init - 1) := by decide +kernel
theorem in_X9_init : Jvm.Cond.instanceMethod (mY md_X9_init) ∈ WB := (wb_2 138 rfl rfl)
theorem ho_X9_init : HOK WB md_X9_init := fun _ h => absurd h List.not_mem_nil
theorem mo_X9_init : MOK WB md_X9_init := ⟨by decide, (wb_2 139 rfl rfl), (wb_1 9 rfl rfl), by decide +kernel, ⟨by decide +kernel, by decide +kernel⟩, rfl, (fun _ => rfl), by decide, ho_X9_init⟩
theorem tb_Jxa1e45_init_da8c8 : TB[16]? = some (md_Jxa1e45_init_da8c8, tl_Jxa1e45_init_da8c8) := rfl
theorem pr_Jxa1e45_init_da8c8 : (parseMethodDescriptor (mY md_Jxa1e45_init_da8c8).desc).map (fun d => d.parameters.length) = some (mN md_Jxa1e45_init_da8c8 - 1) := by decide +kernel
theorem in_Jxa1e45_init_da8c8 : Jvm.Cond.instanceMethod (mY md_Jxa1e45_init_da8c8) ∈ WB := (wb_7 55 rfl rfl)
theorem ho_Jxa1e45_init_da8c8 : HOK WB md_Jxa1e45_init_da8c8 := fun _ h => absurd h List.not_mem_nil
theorem mo_Jxa1e45_init_da8c8 : MOK WB md_Jxa1e45_init_da8c8 := ⟨by decide, (wb_7 56 rfl rfl), (wb_1 14 rfl rfl), by decide +kernel, ⟨by decide +kernel, by decide +kernel⟩, rfl, (fun _ => rfl), by decide, ho_Jxa1e45_init_da8c8⟩
theorem tb_X17_operator : TB[17]? = some (md_X17_operator, tl_X17_operator) := rfl
theorem pr_X17_operator : (parseMethodDescriptor (mY md_X17_operator).desc).map (fun d => d.parameters.length) = some (mN md_X17_operator - 1) := by decide +kernel
theorem in_X17_operator : Jvm.Cond.instanceMethod (mY md_X17_operator) ∈ WB := (wb_10 142 rfl rfl)
theorem se_X17_operator : Jvm.Cond.selects (mY md_X17_operator).cls (mY md_X17_operator) (mY md_X17_operator) ∈ WB := (wb_10 143 rfl rfl)
theorem ho_X17_operator : HOK WB md_X17_operator := fun _ h => absurd h List.not_mem_nil
theorem mo_X17_operator : MOK WB md_X17_operator := ⟨by decide, (wb_10 144 rfl rfl), (wb_1 13 rfl rfl), by decide +kernel, ⟨by decide +kernel, by decide +kernel⟩, rfl, (fun h => by cases h), by decide, ho_X17_operator⟩
theorem tb_X2_init : TB[18]? = some (md_X2_init, tl_X2_init) := rfl
theorem pr_X2_init : (parseMethodDescriptor (mY md_X2_init).desc).map (fun d => d.parameters.length) = some (mN md_X2_init - 1) := by decide +kernel
theorem in_X2_init : Jvm.Cond.instanceMethod (mY md_X2_init) ∈ WB := (wb_1 177 rfl rfl)
theorem ho_X2_init : HOK WB md_X2_init := fun _ h => absurd h List.not_mem_nil
theorem mo_X2_init : MOK WB md_X2_init := ⟨by decide, (wb_1 178 rfl rfl), (wb_1 5 rfl rfl), by decide +kernel, ⟨by decide +kernel, by decide +kernel⟩, rfl, (fun _ => rfl), by decide, ho_X2_init⟩
theorem tb_X17_isIn : TB[19]? = some (md_X17_isIn, tl_X17_isIn) := rfl
theorem pr_X17_isIn : (parseMethodDescriptor (mY md_X17_isIn).desc).map (fun d => d.parameters.length) = some (mN md_X17_isIn) := by decide +kernel
theorem st_X17_isIn : Jvm.Cond.static (mY md_X17_isIn) ∈ WB := (wb_9 105 rfl rfl)
theorem ho_X17_isIn : HOK WB md_X17_isIn := fun _ h => absurd h List.not_mem_nil
theorem mo_X17_isIn : MOK WB md_X17_isIn := ⟨by decide, (wb_9 106 rfl rfl), (wb_1 13 rfl rfl), by decide +kernel, ⟨by decide +kernel, by decide +kernel⟩, rfl, (fun h => by cases h), by decide, ho_X17_isIn⟩
theorem tb_X10_operator : TB[20]? = some (md_X10_operator, tl_X10_operator) := rfl
theorem pr_X10_operator : (parseMethodDescriptor (mY md_X10_operator).desc).map (fun d => d.parameters.length) = some (mN md_X10_operator - 1) := by decide +kernel
theorem in_X10_operator : Jvm.Cond.instanceMethod (mY md_X10_operator) ∈ WB := (wb_5 88 rfl rfl)
theorem se_X10_operator : Jvm.Cond.selects (mY md_X10_operator).cls (mY md_X10_operator) (mY md_X10_operator) ∈ WB := (wb_5 89 rfl rfl)
theorem ho_X10_operator : HOK WB md_X10_operator := fun _ h => absurd h List.not_mem_nil
theorem mo_X10_operator : MOK WB md_X10_operator := ⟨by decide, (wb_5 90 rfl rfl), (wb_1 1 rfl rfl), by decide +kernel, ⟨by decide +kernel, by decide +kernel⟩, rfl, (fun h => by cases h), by decide, ho_X10_operator⟩
theorem tb_L_operator : TB[21]? = some (md_L_operator, tl_L_operator) := rfl
theorem pr_L_operator : (parseMethodDescriptor (mY md_L_operator).desc).map (fun d => d.parameters.length) = some (mN md_L_operator) := by decide +kernel
theorem st_L_operator : Jvm.Cond.static (mY md_L_operator) ∈ WB := (wb_5 85 rfl rfl)
theorem ho_L_operator : HOK WB md_L_operator := List.forall_mem_cons.mpr ⟨fun _ => ⟨by decide, (wb_5 20 rfl rfl)⟩, List.forall_mem_cons.mpr ⟨fun _ => ⟨by decide, (wb_5 55 rfl rfl)⟩, List.forall_mem_cons.mpr ⟨fun _ => ⟨by decide, (wb_4 183 rfl rfl)⟩, fun _ h => absurd h List.not_mem_nil⟩⟩⟩
theorem mo_L_operator : MOK WB md_L_operator := ⟨by decide, (wb_5 86 rfl rfl), (wb_1 0 rfl rfl), by decide +kernel, ⟨by decide +kernel, by decide +kernel⟩, rfl, (fun h => by cases h), by decide, ho_L_operator⟩
theorem tb_X17_thrown : TB[22]? = some (md_X17_thrown, tl_X17_thrown) := rfl
theorem pr_X17_thrown : (parseMethodDescriptor (mY md_X17_thrown).desc).map (fun d => d.parameters.length) = some (mN md_X17_thrown - 1) := by decide +kernel
theorem in_X17_thrown : Jvm.Cond.instanceMethod (mY md_X17_thrown) ∈ WB := (wb_8 0 rfl rfl)
theorem se_X17_thrown : Jvm.Cond.selects (mY md_X17_thrown).cls (mY md_X17_thrown) (mY md_X17_thrown) ∈ WB := (wb_8 1 rfl rfl)
theorem ho_X17_thrown : HOK WB md_X17_thrown := fun _ h => absurd h List.not_mem_nil
theorem mo_X17_thrown : MOK WB md_X17_thrown := ⟨by decide, (wb_8 2 rfl rfl), (wb_1 13 rfl rfl), by decide +kernel, ⟨by decide +kernel, by decide +kernel⟩, rfl, (fun h => by cases h), by decide, ho_X17_thrown⟩
theorem tb_X17_load : TB[23]? = some (md_X17_load, tl_X17_load) := rfl
theorem pr_X17_load : (parseMethodDescriptor (mY md_X17_load).desc).map (fun d => d.parameters.length) = some (mN md_X17_load - 1) := by decide +kernel
theorem in_X17_load : Jvm.Cond.instanceMethod (mY md_X17_load) ∈ WB := (wb_10 162 rfl rfl)
theorem se_X17_load : Jvm.Cond.selects (mY md_X17_load).cls (mY md_X17_load) (mY md_X17_load) ∈ WB := (wb_10 163 rfl rfl)
theorem ho_X17_load : HOK WB md_X17_load := fun _ h => absurd h List.not_mem_nil
theorem mo_X17_load : MOK WB md_X17_load := ⟨by decide, (wb_10 164 rfl rfl), (wb_1 13 rfl rfl), by decide +kernel, ⟨by decide +kernel, by decide +kernel⟩, rfl, (fun h => by cases h), by decide, ho_X17_load⟩
theorem tb_X7_hasOperator : TB[24]? = some (md_X7_hasOperator, tl_X7_hasOperator) := rfl
theorem pr_X7_hasOperator : (parseMethodDescriptor (mY md_X7_hasOperator).desc).map (fun d => d.parameters.length) = some (mN md_X7_hasOperator - 1) := by decide +kernel
theorem in_X7_hasOperator : Jvm.Cond.instanceMethod (mY md_X7_hasOperator) ∈ WB := (wb_5 92 rfl rfl)
theorem se_X7_hasOperator : Jvm.Cond.selects (mY md_X7_hasOperator).cls (mY md_X7_hasOperator) (mY md_X7_hasOperator) ∈ WB := (wb_5 93 rfl rfl)
theorem ho_X7_hasOperator : HOK WB md_X7_hasOperator := fun _ h => absurd h List.not_mem_nil
theorem mo_X7_hasOperator : MOK WB md_X7_hasOperator := ⟨by decide, (wb_5 94 rfl rfl), (wb_1 2 rfl rfl), by decide +kernel, ⟨by decide +kernel, by decide +kernel⟩, rfl, (fun h => by cases h), by decide, ho_X7_hasOperator⟩
theorem tb_X17_term : TB[25]? = some (md_X17_term, tl_X17_term) := rfl
theorem pr_X17_term : (parseMethodDescriptor (mY md_X17_term).desc).map (fun d => d.parameters.length) = some (mN md_X17_term - 1) := by decide +kernel
theorem in_X17_term : Jvm.Cond.instanceMethod (mY md_X17_term) ∈ WB := (wb_10 150 rfl rfl)
theorem se_X17_term : Jvm.Cond.selects (mY md_X17_term).cls (mY md_X17_term) (mY md_X17_term) ∈ WB := (wb_10 151 rfl rfl)
theorem ho_X17_term : HOK WB md_X17_term := fun _ h => absurd h List.not_mem_nil
theorem mo_X17_term : MOK WB md_X17_term := ⟨by decide, (wb_10 152 rfl rfl), (wb_1 13 rfl rfl), by decide +kernel, ⟨by decide +kernel, by decide +kernel⟩, rfl, (fun h => by cases h), by decide, ho_X17_term⟩
theorem tb_X8_end : TB[26]? = some (md_X8_end, tl_X8_end) := rfl
theorem pr_X8_end : (parseMethodDescriptor (mY md_X8_end).desc).map (fun d => d.parameters.length) = some (mN md_X8_end - 1) := by decide +kernel
theorem in_X8_end : Jvm.Cond.instanceMethod (mY md_X8_end) ∈ WB := (wb_3 150 rfl rfl)
theorem se_X8_end : Jvm.Cond.selects (mY md_X8_end).cls (mY md_X8_end) (mY md_X8_end) ∈ WB := (wb_3 151 rfl rfl)
theorem ho_X8_end : HOK WB md_X8_end := fun _ h => absurd h List.not_mem_nil
theorem mo_X8_end : MOK WB md_X8_end := ⟨by decide, (wb_3 152 rfl rfl), (wb_1 4 rfl rfl), by decide +kernel, ⟨by decide +kernel, by decide +kernel⟩, rfl, (fun h => by cases h), by decide, ho_X8_end⟩
theorem tb_X10_load : TB[27]? = some (md_X10_load, tl_X10_load) := rfl
theorem pr_X10_load : (parseMethodDescriptor (mY md_X10_load).desc).map (fun d => d.parameters.length) = some (mN md_X10_load - 1) := by decide +kernel
theorem in_X10_load : Jvm.Cond.instanceMethod (mY md_X10_load) ∈ WB := (wb_5 158 rfl rfl)
theorem se_X10_load : Jvm.Cond.selects (mY md_X10_load).cls (mY md_X10_load) (mY md_X10_load) ∈ WB := (wb_5 159 rfl rfl)
theorem ho_X10_load : HOK WB md_X10_load := fun _ h => absurd h List.not_mem_nil
theorem mo_X10_load : MOK WB md_X10_load := ⟨by decide, (wb_5 160 rfl rfl), (wb_1 1 rfl rfl), by decide +kernel, ⟨by decide +kernel, by decide +kernel⟩, rfl, (fun h => by cases h), by decide, ho_X10_load⟩
theorem tb_X17_tell : TB[28]? = some (md_X17_tell, tl_X17_tell) := rfl
theorem pr_X17_tell : (parseMethodDescriptor (mY md_X17_tell).desc).map (fun d => d.parameters.length) = some (mN md_X17_tell - 1) := by decide +kernel
theorem in_X17_tell : Jvm.Cond.instanceMethod (mY md_X17_tell) ∈ WB := (wb_10 229 rfl rfl)
theorem se_X17_tell : Jvm.Cond.selects (mY md_X17_tell).cls (mY md_X17_tell) (mY md_X17_tell) ∈ WB := (wb_10 230 rfl rfl)
theorem ho_X17_tell : HOK WB md_X17_tell := fun _ h => absurd h List.not_mem_nil
theorem mo_X17_tell : MOK WB md_X17_tell := ⟨by decide, (wb_10 231 rfl rfl), (wb_1 13 rfl rfl), by decide +kernel, ⟨by decide +kernel, by decide +kernel⟩, rfl, (fun h => by cases h), by decide, ho_X17_tell⟩
theorem tb_Jx4a65c_grow_92f84 : TB[29]? = some (md_Jx4a65c_grow_92f84, tl_Jx4a65c_grow_92f84) := rfl
theorem pr_Jx4a65c_grow_92f84 : (parseMethodDescriptor (mY md_Jx4a65c_grow_92f84).desc).map (fun d => d.parameters.length) = some (mN md_Jx4a65c_grow_92f84 - 1) := by decide +kernel
theorem in_Jx4a65c_grow_92f84 : Jvm.Cond.instanceMethod (mY md_Jx4a65c_grow_92f84) ∈ WB := (wb_9 28 rfl rfl)
theorem se_Jx4a65c_grow_92f84 : Jvm.Cond.selects (mY md_Jx4a65c_grow_92f84).cls (mY md_Jx4a65c_grow_92f84) (mY md_Jx4a65c_grow_92f84) ∈ WB := (wb_0 74 rfl rfl)
theorem ho_Jx4a65c_grow_92f84 : HOK WB md_Jx4a65c_grow_92f84 := fun _ h => absurd h List.not_mem_nil
theorem mo_Jx4a65c_grow_92f84 : MOK WB md_Jx4a65c_grow_92f84 := ⟨by decide, (wb_9 29 rfl rfl), (wb_1 16 rfl rfl), by decide +kernel, ⟨by decide +kernel, by decide +kernel⟩, rfl, (fun h => by cases h), by decide, ho_Jx4a65c_grow_92f84⟩
theorem tb_Jx4a65c_size_8abf5 : TB[30]? = some (md_Jx4a65c_size_8abf5, tl_Jx4a65c_size_8abf5) := rfl
theorem pr_Jx4a65c_size_8abf5 : (parseMethodDescriptor (mY md_Jx4a65c_size_8abf5).desc).map (fun d => d.parameters.length) = some (mN md_Jx4a65c_size_8abf5 - 1) := by decide +kernel
theorem in_Jx4a65c_size_8abf5 : Jvm.Cond.instanceMethod (mY md_Jx4a65c_size_8abf5) ∈ WB := (wb_8 37 rfl rfl)
theorem ho_Jx4a65c_size_8abf5 : HOK WB md_Jx4a65c_size_8abf5 := fun _ h => absurd h List.not_mem_nil
theorem mo_Jx4a65c_size_8abf5 : MOK WB md_Jx4a65c_size_8abf5 := ⟨by decide, (wb_8 39 rfl rfl), (wb_1 16 rfl rfl), by decide +kernel, ⟨by decide +kernel, by decide +kernel⟩, rfl, (fun h => by cases h), by decide, ho_Jx4a65c_size_8abf5⟩
theorem tb_Jx4a65c_add_72be8 : TB[31]? = some (md_Jx4a65c_add_72be8, tl_Jx4a65c_add_72be8) := rfl
theorem pr_Jx4a65c_add_72be8 : (parseMethodDescriptor (mY md_Jx4a65c_add_72be8).desc).map (fun d => d.parameters.length) = some (mN md_Jx4a65c_add_72be8 - 1) := by decide +kernel
theorem in_Jx4a65c_add_72be8 : Jvm.Cond.instanceMethod (mY md_Jx4a65c_add_72be8) ∈ WB := (wb_9 20 rfl rfl)
theorem se_Jx4a65c_add_72be8 : Jvm.Cond.selects (mY md_Jx4a65c_add_72be8).cls (mY md_Jx4a65c_add_72be8) (mY md_Jx4a65c_add_72be8) ∈ WB := (wb_0 72 rfl rfl)
theorem ho_Jx4a65c_add_72be8 : HOK WB md_Jx4a65c_add_72be8 := fun _ h => absurd h List.not_mem_nil
theorem mo_Jx4a65c_add_72be8 : MOK WB md_Jx4a65c_add_72be8 := ⟨by decide, (wb_9 21 rfl rfl), (wb_1 16 rfl rfl), by decide +kernel, ⟨by decide +kernel, by decide +kernel⟩, rfl, (fun h => by cases h), by decide, ho_Jx4a65c_add_72be8⟩
theorem tb_L_load : TB[32]? = some (md_L_load, tl_L_load) := rfl
theorem pr_L_load : (parseMethodDescriptor (mY md_L_load).desc).map (fun d => d.parameters.length) = some (mN md_L_load) := by decide +kernel
theorem st_L_load : Jvm.Cond.static (mY md_L_load) ∈ WB := (wb_5 155 rfl rfl)
theorem ho_L_load : HOK WB md_L_load := List.forall_mem_cons.mpr ⟨fun _ => ⟨by decide, (wb_5 55 rfl rfl)⟩, List.forall_mem_cons.mpr ⟨fun _ => ⟨by decide, (wb_4 183 rfl rfl)⟩, fun _ h => absurd h List.not_mem_nil⟩⟩
theorem mo_L_load : MOK WB md_L_load := ⟨by decide, (wb_5 156 rfl rfl), (wb_1 0 rfl rfl), by decide +kernel, ⟨by decide +kernel, by decide +kernel⟩, rfl, (fun h => by cases h), by decide, ho_L_load⟩
theorem tb_Jx4a65c_add_9ea2d : TB[33]? = some (md_Jx4a65c_add_9ea2d, tl_Jx4a65c_add_9ea2d) := rfl
theorem pr_Jx4a65c_add_9ea2d : (parseMethodDescriptor (mY md_Jx4a65c_add_9ea2d).desc).map (fun d => d.parameters.length) = some (mN md_Jx4a65c_add_9ea2d - 1) := by decide +kernel
theorem in_Jx4a65c_add_9ea2d : Jvm.Cond.instanceMethod (mY md_Jx4a65c_add_9ea2d) ∈ WB := (wb_9 15 rfl rfl)
theorem ho_Jx4a65c_add_9ea2d : HOK WB md_Jx4a65c_add_9ea2d := fun _ h => absurd h List.not_mem_nil
theorem mo_Jx4a65c_add_9ea2d : MOK WB md_Jx4a65c_add_9ea2d := ⟨by decide, (wb_9 17 rfl rfl), (wb_1 16 rfl rfl), by decide +kernel, ⟨by decide +kernel, by decide +kernel⟩, rfl, (fun h => by cases h), by decide, ho_Jx4a65c_add_9ea2d⟩
theorem tb_X10_push : TB[34]? = some (md_X10_push, tl_X10_push) := rfl
theorem pr_X10_push : (parseMethodDescriptor (mY md_X10_push).desc).map (fun d => d.parameters.length) = some (mN md_X10_push - 1) := by decide +kernel
theorem in_X10_push : Jvm.Cond.instanceMethod (mY md_X10_push) ∈ WB := (wb_5 127 rfl rfl)
theorem se_X10_push : Jvm.Cond.selects (mY md_X10_push).cls (mY md_X10_push) (mY md_X10_push) ∈ WB := (wb_0 26 rfl rfl)
theorem ho_X10_push : HOK WB md_X10_push := fun _ h => absurd h List.not_mem_nil
theorem mo_X10_push : MOK WB md_X10_push := ⟨by decide, (wb_5 128 rfl rfl), (wb_1 1 rfl rfl), by decide +kernel, ⟨by decide +kernel, by decide +kernel⟩, rfl, (fun h => by cases h), by decide, ho_X10_push⟩
theorem tb_X7_addOperator : TB[35]? = some (md_X7_addOperator, tl_X7_addOperator) := rfl
theorem pr_X7_addOperator : (parseMethodDescriptor (mY md_X7_addOperator).desc).map (fun d => d.parameters.length) = some (mN md_X7_addOperator - 1) := by decide +kernel
theorem in_X7_addOperator : Jvm.Cond.instanceMethod (mY md_X7_addOperator) ∈ WB := (wb_5 101 rfl rfl)
theorem se_X7_addOperator : Jvm.Cond.selects (mY md_X7_addOperator).cls (mY md_X7_addOperator) (mY md_X7_addOperator) ∈ WB := (wb_5 102 rfl rfl)
theorem ho_X7_addOperator : HOK WB md_X7_addOperator := fun _ h => absurd h List.not_mem_nil
theorem mo_X7_addOperator : MOK WB md_X7_addOperator := ⟨by decide, (wb_5 103 rfl rfl), (wb_1 2 rfl rfl), by decide +kernel, ⟨by decide +kernel, by decide +kernel⟩, rfl, (fun h => by cases h), by decide, ho_X7_addOperator⟩
theorem tb_X8_store : TB[36]? = some (md_X8_store, tl_X8_store) := rfl
theorem pr_X8_store : (parseMethodDescriptor (mY md_X8_store).desc).map (fun d => d.parameters.length) = some (mN md_X8_store - 1) := by decide +kernel
theorem in_X8_store : Jvm.Cond.instanceMethod (mY md_X8_store) ∈ WB := (wb_4 173 rfl rfl)
theorem se_X8_store : Jvm.Cond.selects (mY md_X8_store).cls (mY md_X8_store) (mY md_X8_store) ∈ WB := (wb_4 174 rfl rfl)
theorem ho_X8_store : HOK WB md_X8_store := fun _ h => absurd h List.not_mem_nil
theorem mo_X8_store : MOK WB md_X8_store := ⟨by decide, (wb_4 175 rfl rfl), (wb_1 4 rfl rfl), by decide +kernel, ⟨by decide +kernel, by decide +kernel⟩, rfl, (fun h => by cases h), by decide, ho_X8_store⟩
theorem tb_X10_term : TB[37]? = some (md_X10_term, tl_X10_term) := rfl
theorem pr_X10_term : (parseMethodDescriptor (mY md_X10_term).desc).map (fun d => d.parameters.length) = some (mN md_X10_term - 1) := by decide +kernel
theorem in_X10_term : Jvm.Cond.instanceMethod (mY md_X10_term) ∈ WB := (wb_5 121 rfl rfl)
theorem se_X10_term : Jvm.Cond.selects (mY md_X10_term).cls (mY md_X10_term) (mY md_X10_term) ∈ WB := (wb_5 122 rfl rfl)
theorem ho_X10_term : HOK WB md_X10_term := fun _ h => absurd h List.not_mem_nil
theorem mo_X10_term : MOK WB md_X10_term := ⟨by decide, (wb_5 123 rfl rfl), (wb_1 1 rfl rfl), by decide +kernel, ⟨by decide +kernel, by decide +kernel⟩, rfl, (fun h => by cases h), by decide, ho_X10_term⟩
theorem tb_L_term : TB[38]? = some (md_L_term, tl_L_term) := rfl
theorem pr_L_term : (parseMethodDescriptor (mY md_L_term).desc).map (fun d => d.parameters.length) = some (mN md_L_term) := by decide +kernel
theorem st_L_term : Jvm.Cond.static (mY md_L_term) ∈ WB := (wb_5 118 rfl rfl)
theorem ho_L_term : HOK WB md_L_term := List.forall_mem_cons.mpr ⟨fun _ => ⟨by decide, (wb_5 55 rfl rfl)⟩, List.forall_mem_cons.mpr ⟨fun _ => ⟨by decide, (wb_4 183 rfl rfl)⟩, fun _ h => absurd h List.not_mem_nil⟩⟩
theorem mo_L_term : MOK WB md_L_term := ⟨by decide, (wb_5 119 rfl rfl), (wb_1 0 rfl rfl), by decide +kernel, ⟨by decide +kernel, by decide +kernel⟩, rfl, (fun h => by cases h), by decide, ho_L_term⟩
theorem tb_X10_isVariableNumber : TB[39]? = some (md_X10_isVariableNumber, tl_X10_isVariableNumber) := rfl
theorem pr_X10_isVariableNumber : (parseMethodDescriptor (mY md_X10_isVariableNumber).desc).map (fun d => d.parameters.length) = some (mN md_X10_isVariableNumber) := by decide +kernel
theorem st_X10_isVariableNumber : Jvm.Cond.static (mY md_X10_isVariableNumber) ∈ WB := (wb_5 61 rfl rfl)
theorem ho_X10_isVariableNumber : HOK WB md_X10_isVariableNumber := fun _ h => absurd h List.not_mem_nil
theorem mo_X10_isVariableNumber : MOK WB md_X10_isVariableNumber := ⟨by decide, (wb_5 62 rfl rfl), (wb_1 1 rfl rfl), by decide +kernel, ⟨by decide +kernel, by decide +kernel⟩, rfl, (fun h => by cases h), by decide, ho_X10_isVariableNumber⟩
theorem tb_X10_tell : TB[40]? = some (md_X10_tell, tl_X10_tell) := rfl
theorem pr_X10_tell : (parseMethodDescriptor (mY md_X10_tell).desc).map (fun d => d.parameters.length) = some (mN md_X10_tell - 1) := by decide +kernel
theorem in_X10_tell : Jvm.Cond.instanceMethod (mY md_X10_tell) ∈ WB := (wb_5 230 rfl rfl)
theorem se_X10_tell : Jvm.Cond.selects (mY md_X10_tell).cls (mY md_X10_tell) (mY md_X10_tell) ∈ WB := (wb_5 231 rfl rfl)
theorem ho_X10_tell : HOK WB md_X10_tell := fun _ h => absurd h List.not_mem_nil
theorem mo_X10_tell : MOK WB md_X10_tell := ⟨by decide, (wb_5 232 rfl rfl), (wb_1 1 rfl rfl), by decide +kernel, ⟨by decide +kernel, by decide +kernel⟩, rfl, (fun h => by cases h), by decide, ho_X10_tell⟩
theorem tb_L_tell : TB[41]? = some (md_L_tell, tl_L_tell) := rfl
theorem pr_L_tell : (parseMethodDescriptor (mY md_L_tell).desc).map (fun d => d.parameters.length) = some (mN md_L_tell) := by decide +kernel
theorem st_L_tell : Jvm.Cond.static (mY md_L_tell) ∈ WB := (wb_5 227 rfl rfl)
theorem ho_L_tell : HOK WB md_L_tell := List.forall_mem_cons.mpr ⟨fun _ => ⟨by decide, (wb_4 183 rfl rfl)⟩, fun _ h => absurd h List.not_mem_nil⟩
theorem mo_L_tell : MOK WB md_L_tell := ⟨by decide, (wb_5 228 rfl rfl), (wb_1 0 rfl rfl), by decide +kernel, ⟨by decide +kernel, by decide +kernel⟩, rfl, (fun h => by cases h), by decide, ho_L_tell⟩
theorem tb_Jx4a65c_grow_d5877 : TB[42]? = some (md_Jx4a65c_grow_d5877, tl_Jx4a65c_grow_d5877) := rfl
theorem pr_Jx4a65c_grow_d5877 : (parseMethodDescriptor (mY md_Jx4a65c_grow_d5877).desc).map (fun d => d.parameters.length) = some (mN md_Jx4a65c_grow_d5877 - 1) := by decide +kernel
theorem in_Jx4a65c_grow_d5877 : Jvm.Cond.instanceMethod (mY md_Jx4a65c_grow_d5877) ∈ WB := (wb_9 24 rfl rfl)
theorem se_Jx4a65c_grow_d5877 : Jvm.Cond.selects (mY md_Jx4a65c_grow_d5877).cls (mY md_Jx4a65c_grow_d5877) (mY md_Jx4a65c_grow_d5877) ∈ WB := (wb_0 73 rfl rfl)
theorem ho_Jx4a65c_grow_d5877 : HOK WB md_Jx4a65c_grow_d5877 := fun _ h => absurd h List.not_mem_nil
theorem mo_Jx4a65c_grow_d5877 : MOK WB md_Jx4a65c_grow_d5877 := ⟨by decide, (wb_9 25 rfl rfl), (wb_1 16 rfl rfl), by decide +kernel, ⟨by decide +kernel, by decide +kernel⟩, rfl, (fun h => by cases h), by decide, ho_Jx4a65c_grow_d5877⟩
theorem tb_Jx4a65c_isEmpty_aae02 : TB[43]? = some (md_Jx4a65c_isEmpty_aae02, tl_Jx4a65c_isEmpty_aae02) := rfl
theorem pr_Jx4a65c_isEmpty_aae02 : (parseMethodDescriptor (mY md_Jx4a65c_isEmpty_aae02).desc).map (fun d => d.parameters.length) = some (mN md_Jx4a65c_isEmpty_aae02 - 1) := by decide +kernel
theorem in_Jx4a65c_isEmpty_aae02 : Jvm.Cond.instanceMethod (mY md_Jx4a65c_isEmpty_aae02) ∈ WB := (wb_8 15 rfl rfl)
theorem ho_Jx4a65c_isEmpty_aae02 : HOK WB md_Jx4a65c_isEmpty_aae02 := fun _ h => absurd h List.not_mem_nil
theorem mo_Jx4a65c_isEmpty_aae02 : MOK WB md_Jx4a65c_isEmpty_aae02 := ⟨by decide, (wb_8 17 rfl rfl), (wb_1 16 rfl rfl), by decide +kernel, ⟨by decide +kernel, by decide +kernel⟩, rfl, (fun h => by cases h), by decide, ho_Jx4a65c_isEmpty_aae02⟩
theorem tb_X8_startAnew : TB[44]? = some (md_X8_startAnew, tl_X8_startAnew) := rfl
theorem pr_X8_startAnew : (parseMethodDescriptor (mY md_X8_startAnew).desc).map (fun d => d.parameters.length) = some (mN md_X8_startAnew - 1) := by decide +kernel
theorem in_X8_startAnew : Jvm.Cond.instanceMethod (mY md_X8_startAnew) ∈ WB := (wb_3 129 rfl rfl)
theorem se_X8_startAnew : Jvm.Cond.selects (mY md_X8_startAnew).cls (mY md_X8_startAnew) (mY md_X8_startAnew) ∈ WB := (wb_3 130 rfl rfl)
theorem ho_X8_startAnew : HOK WB md_X8_startAnew := fun _ h => absurd h List.not_mem_nil
theorem mo_X8_startAnew : MOK WB md_X8_startAnew := ⟨by decide, (wb_3 131 rfl rfl), (wb_1 4 rfl rfl), by decide +kernel, ⟨by decide +kernel, by decide +kernel⟩, rfl, (fun h => by cases h), by decide, ho_X8_startAnew⟩
theorem tb_X10_stackAt : TB[45]? = some (md_X10_stackAt, tl_X10_stackAt) := rfl
theorem pr_X10_stackAt : (parseMethodDescriptor (mY md_X10_stackAt).desc).map (fun d => d.parameters.length) = some (mN md_X10_stackAt) := by decide +kernel
theorem st_X10_stackAt : Jvm.Cond.static (mY md_X10_stackAt) ∈ WB := (wb_5 130 rfl rfl)
theorem ho_X10_stackAt : HOK WB md_X10_stackAt := fun _ h => absurd h List.not_mem_nil
theorem mo_X10_stackAt : MOK WB md_X10_stackAt := ⟨by decide, (wb_5 131 rfl rfl), (wb_1 1 rfl rfl), by decide +kernel, ⟨by decide +kernel, by decide +kernel⟩, rfl, (fun h => by cases h), by decide, ho_X10_stackAt⟩
theorem tb_X17_declare : TB[46]? = some (md_X17_declare, tl_X17_declare) := rfl
theorem pr_X17_declare : (parseMethodDescriptor (mY md_X17_declare).desc).map (fun d => d.parameters.length) = some (mN md_X17_declare - 1) := by decide +kernel
theorem in_X17_declare : Jvm.Cond.instanceMethod (mY md_X17_declare) ∈ WB := (wb_10 146 rfl rfl)
theorem se_X17_declare : Jvm.Cond.selects (mY md_X17_declare).cls (mY md_X17_declare) (mY md_X17_declare) ∈ WB := (wb_10 147 rfl rfl)
theorem ho_X17_declare : HOK WB md_X17_declare := fun _ h => absurd h List.not_mem_nil
theorem mo_X17_declare : MOK WB md_X17_declare := ⟨by decide, (wb_10 148 rfl rfl), (wb_1 13 rfl rfl), by decide +kernel, ⟨by decide +kernel, by decide +kernel⟩, rfl, (fun h => by cases h), by decide, ho_X17_declare⟩
theorem tb_X10_complete : TB[47]? = some (md_X10_complete, tl_X10_complete) := rfl
theorem pr_X10_complete : (parseMethodDescriptor (mY md_X10_complete).desc).map (fun d => d.parameters.length) = some (mN md_X10_complete - 1) := by decide +kernel
theorem in_X10_complete : Jvm.Cond.instanceMethod (mY md_X10_complete) ∈ WB := (wb_3 203 rfl rfl)
theorem se_X10_complete : Jvm.Cond.selects (mY md_X10_complete).cls (mY md_X10_complete) (mY md_X10_complete) ∈ WB := (wb_3 204 rfl rfl)
theorem ho_X10_complete : HOK WB md_X10_complete := fun _ h => absurd h List.not_mem_nil
theorem mo_X10_complete : MOK WB md_X10_complete := ⟨by decide, (wb_3 205 rfl rfl), (wb_1 1 rfl rfl), by decide +kernel, ⟨by decide +kernel, by decide +kernel⟩, rfl, (fun h => by cases h), by decide, ho_X10_complete⟩
theorem tb_X17_both : TB[48]? = some (md_X17_both, tl_X17_both) := rfl
theorem pr_X17_both : (parseMethodDescriptor (mY md_X17_both).desc).map (fun d => d.parameters.length) = some (mN md_X17_both - 1) := by decide +kernel
theorem in_X17_both : Jvm.Cond.instanceMethod (mY md_X17_both) ∈ WB := (wb_9 182 rfl rfl)
theorem se_X17_both : Jvm.Cond.selects (mY md_X17_both).cls (mY md_X17_both) (mY md_X17_both) ∈ WB := (wb_9 183 rfl rfl)
theorem ho_X17_both : HOK WB md_X17_both := fun _ h => absurd h List.not_mem_nil
theorem mo_X17_both : MOK WB md_X17_both := ⟨by decide, (wb_9 184 rfl rfl), (wb_1 13 rfl rfl), by decide +kernel, ⟨by decide +kernel, by decide +kernel⟩, rfl, (fun h => by cases h), by decide, ho_X17_both⟩
theorem tb_X17_holds : TB[49]? = some (md_X17_holds, tl_X17_holds) := rfl
theorem pr_X17_holds : (parseMethodDescriptor (mY md_X17_holds).desc).map (fun d => d.parameters.length) = some (mN md_X17_holds - 1) := by decide +kernel
theorem in_X17_holds : Jvm.Cond.instanceMethod (mY md_X17_holds) ∈ WB := (wb_9 127 rfl rfl)
theorem se_X17_holds : Jvm.Cond.selects (mY md_X17_holds).cls (mY md_X17_holds) (mY md_X17_holds) ∈ WB := (wb_9 128 rfl rfl)
theorem ho_X17_holds : HOK WB md_X17_holds := fun _ h => absurd h List.not_mem_nil
theorem mo_X17_holds : MOK WB md_X17_holds := ⟨by decide, (wb_9 129 rfl rfl), (wb_1 13 rfl rfl), by decide +kernel, ⟨by decide +kernel, by decide +kernel⟩, rfl, (fun h => by cases h), by decide, ho_X17_holds⟩
theorem tb_X17_keep : TB[50]? = some (md_X17_keep, tl_X17_keep) := rfl
theorem pr_X17_keep : (parseMethodDescriptor (mY md_X17_keep).desc).map (fun d => d.parameters.length) = some (mN md_X17_keep - 1) := by decide +kernel
theorem in_X17_keep : Jvm.Cond.instanceMethod (mY md_X17_keep) ∈ WB := (wb_10 158 rfl rfl)
theorem se_X17_keep : Jvm.Cond.selects (mY md_X17_keep).cls (mY md_X17_keep) (mY md_X17_keep) ∈ WB := (wb_10 159 rfl rfl)
theorem ho_X17_keep : HOK WB md_X17_keep := fun _ h => absurd h List.not_mem_nil
theorem mo_X17_keep : MOK WB md_X17_keep := ⟨by decide, (wb_10 160 rfl rfl), (wb_1 13 rfl rfl), by decide +kernel, ⟨by decide +kernel, by decide +kernel⟩, rfl, (fun h => by cases h), by decide, ho_X17_keep⟩
theorem tb_X17_weight : TB[51]? = some (md_X17_weight, tl_X17_weight) := rfl
theorem pr_X17_weight : (parseMethodDescriptor (mY md_X17_weight).desc).map (fun d => d.parameters.length) = some (mN md_X17_weight - 1) := by decide +kernel
theorem in_X17_weight : Jvm.Cond.instanceMethod (mY md_X17_weight) ∈ WB := (wb_10 28 rfl rfl)
theorem se_X17_weight : Jvm.Cond.selects (mY md_X17_weight).cls (mY md_X17_weight) (mY md_X17_weight) ∈ WB := (wb_10 29 rfl rfl)
theorem ho_X17_weight : HOK WB md_X17_weight := fun _ h => absurd h List.not_mem_nil
theorem mo_X17_weight : MOK WB md_X17_weight := ⟨by decide, (wb_10 30 rfl rfl), (wb_1 13 rfl rfl), by decide +kernel, ⟨by decide +kernel, by decide +kernel⟩, rfl, (fun h => by cases h), by decide, ho_X17_weight⟩
theorem tb_X17_complete : TB[52]? = some (md_X17_complete, tl_X17_complete) := rfl
theorem pr_X17_complete : (parseMethodDescriptor (mY md_X17_complete).desc).map (fun d => d.parameters.length) = some (mN md_X17_complete - 1) := by decide +kernel
theorem in_X17_complete : Jvm.Cond.instanceMethod (mY md_X17_complete) ∈ WB := (wb_10 48 rfl rfl)
theorem se_X17_complete : Jvm.Cond.selects (mY md_X17_complete).cls (mY md_X17_complete) (mY md_X17_complete) ∈ WB := (wb_10 49 rfl rfl)
theorem ho_X17_complete : HOK WB md_X17_complete := List.forall_mem_cons.mpr ⟨fun h => absurd h (by decide), fun _ h => absurd h List.not_mem_nil⟩
theorem mo_X17_complete : MOK WB md_X17_complete := ⟨by decide, (wb_10 50 rfl rfl), (wb_1 13 rfl rfl), by decide +kernel, ⟨by decide +kernel, by decide +kernel⟩, rfl, (fun h => by cases h), by decide, ho_X17_complete⟩
theorem tb_X17_view : TB[53]? = some (md_X17_view, tl_X17_view) := rfl
theorem pr_X17_view : (parseMethodDescriptor (mY md_X17_view).desc).map (fun d => d.parameters.length) = some (mN md_X17_view - 1) := by decide +kernel
theorem in_X17_view : Jvm.Cond.instanceMethod (mY md_X17_view) ∈ WB := (wb_10 91 rfl rfl)
theorem se_X17_view : Jvm.Cond.selects (mY md_X17_view).cls (mY md_X17_view) (mY md_X17_view) ∈ WB := (wb_10 92 rfl rfl)
theorem ho_X17_view : HOK WB md_X17_view := fun _ h => absurd h List.not_mem_nil
theorem mo_X17_view : MOK WB md_X17_view := ⟨by decide, (wb_10 93 rfl rfl), (wb_1 13 rfl rfl), by decide +kernel, ⟨by decide +kernel, by decide +kernel⟩, rfl, (fun h => by cases h), by decide, ho_X17_view⟩
theorem tb_X17_use : TB[54]? = some (md_X17_use, tl_X17_use) := rfl
theorem pr_X17_use : (parseMethodDescriptor (mY md_X17_use).desc).map (fun d => d.parameters.length) = some (mN md_X17_use - 1) := by decide +kernel
theorem in_X17_use : Jvm.Cond.instanceMethod (mY md_X17_use) ∈ WB := (wb_9 135 rfl rfl)
theorem se_X17_use : Jvm.Cond.selects (mY md_X17_use).cls (mY md_X17_use) (mY md_X17_use) ∈ WB := (wb_9 136 rfl rfl)
theorem ho_X17_use : HOK WB md_X17_use := fun _ h => absurd h List.not_mem_nil
theorem mo_X17_use : MOK WB md_X17_use := ⟨by decide, (wb_9 137 rfl rfl), (wb_1 13 rfl rfl), by decide +kernel, ⟨by decide +kernel, by decide +kernel⟩, rfl, (fun h => by cases h), by decide, ho_X17_use⟩
theorem tb_X17_joins : TB[55]? = some (md_X17_joins, tl_X17_joins) := rfl
theorem pr_X17_joins : (parseMethodDescriptor (mY md_X17_joins).desc).map (fun d => d.parameters.length) = some (mN md_X17_joins - 1) := by decide +kernel
theorem in_X17_joins : Jvm.Cond.instanceMethod (mY md_X17_joins) ∈ WB := (wb_10 20 rfl rfl)
theorem se_X17_joins : Jvm.Cond.selects (mY md_X17_joins).cls (mY md_X17_joins) (mY md_X17_joins) ∈ WB := (wb_10 21 rfl rfl)
theorem ho_X17_joins : HOK WB md_X17_joins := List.forall_mem_cons.mpr ⟨fun h => absurd h (by decide), fun _ h => absurd h List.not_mem_nil⟩
theorem mo_X17_joins : MOK WB md_X17_joins := ⟨by decide, (wb_10 22 rfl rfl), (wb_1 13 rfl rfl), by decide +kernel, ⟨by decide +kernel, by decide +kernel⟩, rfl, (fun h => by cases h), by decide, ho_X17_joins⟩
theorem tb_X17_state : TB[56]? = some (md_X17_state, tl_X17_state) := rfl
theorem pr_X17_state : (parseMethodDescriptor (mY md_X17_state).desc).map (fun d => d.parameters.length) = some (mN md_X17_state - 1) := by decide +kernel
theorem in_X17_state : Jvm.Cond.instanceMethod (mY md_X17_state) ∈ WB := (wb_9 101 rfl rfl)
theorem se_X17_state : Jvm.Cond.selects (mY md_X17_state).cls (mY md_X17_state) (mY md_X17_state) ∈ WB := (wb_9 102 rfl rfl)
theorem ho_X17_state : HOK WB md_X17_state := fun _ h => absurd h List.not_mem_nil
theorem mo_X17_state : MOK WB md_X17_state := ⟨by decide, (wb_9 103 rfl rfl), (wb_1 13 rfl rfl), by decide +kernel, ⟨by decide +kernel, by decide +kernel⟩, rfl, (fun h => by cases h), by decide, ho_X17_state⟩
theorem tb_X17_cameBy : TB[57]? = some (md_X17_cameBy, tl_X17_cameBy) := rfl
theorem pr_X17_cameBy : (parseMethodDescriptor (mY md_X17_cameBy).desc).map (fun d => d.parameters.length) = some (mN md_X17_cameBy - 1) := by decide +kernel
theorem in_X17_cameBy : Jvm.Cond.instanceMethod (mY md_X17_cameBy) ∈ WB := (wb_9 108 rfl rfl)
theorem se_X17_cameBy : Jvm.Cond.selects (mY md_X17_cameBy).cls (mY md_X17_cameBy) (mY md_X17_cameBy) ∈ WB := (wb_9 109 rfl rfl)
theorem ho_X17_cameBy : HOK WB md_X17_cameBy := fun _ h => absurd h List.not_mem_nil
theorem mo_X17_cameBy : MOK WB md_X17_cameBy := ⟨by decide, (wb_9 110 rfl rfl), (wb_1 13 rfl rfl), by decide +kernel, ⟨by decide +kernel, by decide +kernel⟩, rfl, (fun h => by cases h), by decide, ho_X17_cameBy⟩
theorem tb_X17_allPairs : TB[58]? = some (md_X17_allPairs, tl_X17_allPairs) := rfl
theorem pr_X17_allPairs : (parseMethodDescriptor (mY md_X17_allPairs).desc).map (fun d => d.parameters.length) = some (mN md_X17_allPairs - 1) := by decide +kernel
theorem in_X17_allPairs : Jvm.Cond.instanceMethod (mY md_X17_allPairs) ∈ WB := (wb_9 211 rfl rfl)
theorem se_X17_allPairs : Jvm.Cond.selects (mY md_X17_allPairs).cls (mY md_X17_allPairs) (mY md_X17_allPairs) ∈ WB := (wb_0 86 rfl rfl)
theorem ho_X17_allPairs : HOK WB md_X17_allPairs := fun _ h => absurd h List.not_mem_nil
theorem mo_X17_allPairs : MOK WB md_X17_allPairs := ⟨by decide, (wb_9 212 rfl rfl), (wb_1 13 rfl rfl), by decide +kernel, ⟨by decide +kernel, by decide +kernel⟩, rfl, (fun h => by cases h), by decide, ho_X17_allPairs⟩
theorem tb_X17_copy : TB[59]? = some (md_X17_copy, tl_X17_copy) := rfl
theorem pr_X17_copy : (parseMethodDescriptor (mY md_X17_copy).desc).map (fun d => d.parameters.length) = some (mN md_X17_copy - 1) := by decide +kernel
theorem in_X17_copy : Jvm.Cond.instanceMethod (mY md_X17_copy) ∈ WB := (wb_10 95 rfl rfl)
theorem se_X17_copy : Jvm.Cond.selects (mY md_X17_copy).cls (mY md_X17_copy) (mY md_X17_copy) ∈ WB := (wb_10 96 rfl rfl)
theorem ho_X17_copy : HOK WB md_X17_copy := List.forall_mem_cons.mpr ⟨fun h => absurd h (by decide), fun _ h => absurd h List.not_mem_nil⟩
theorem mo_X17_copy : MOK WB md_X17_copy := ⟨by decide, (wb_10 97 rfl rfl), (wb_1 13 rfl rfl), by decide +kernel, ⟨by decide +kernel, by decide +kernel⟩, rfl, (fun h => by cases h), by decide, ho_X17_copy⟩
theorem tb_X17_descends : TB[60]? = some (md_X17_descends, tl_X17_descends) := rfl
theorem pr_X17_descends : (parseMethodDescriptor (mY md_X17_descends).desc).map (fun d => d.parameters.length) = some (mN md_X17_descends - 1) := by decide +kernel
theorem in_X17_descends : Jvm.Cond.instanceMethod (mY md_X17_descends) ∈ WB := (wb_10 32 rfl rfl)
theorem se_X17_descends : Jvm.Cond.selects (mY md_X17_descends).cls (mY md_X17_descends) (mY md_X17_descends) ∈ WB := (wb_10 33 rfl rfl)
theorem ho_X17_descends : HOK WB md_X17_descends := fun _ h => absurd h List.not_mem_nil
theorem mo_X17_descends : MOK WB md_X17_descends := ⟨by decide, (wb_10 34 rfl rfl), (wb_1 13 rfl rfl), by decide +kernel, ⟨by decide +kernel, by decide +kernel⟩, rfl, (fun h => by cases h), by decide, ho_X17_descends⟩
theorem tb_X17_isSort : TB[61]? = some (md_X17_isSort, tl_X17_isSort) := rfl
theorem pr_X17_isSort : (parseMethodDescriptor (mY md_X17_isSort).desc).map (fun d => d.parameters.length) = some (mN md_X17_isSort - 1) := by decide +kernel
theorem in_X17_isSort : Jvm.Cond.instanceMethod (mY md_X17_isSort) ∈ WB := (wb_10 131 rfl rfl)
theorem se_X17_isSort : Jvm.Cond.selects (mY md_X17_isSort).cls (mY md_X17_isSort) (mY md_X17_isSort) ∈ WB := (wb_0 101 rfl rfl)
theorem ho_X17_isSort : HOK WB md_X17_isSort := fun _ h => absurd h List.not_mem_nil
theorem mo_X17_isSort : MOK WB md_X17_isSort := ⟨by decide, (wb_10 132 rfl rfl), (wb_1 13 rfl rfl), by decide +kernel, ⟨by decide +kernel, by decide +kernel⟩, rfl, (fun h => by cases h), by decide, ho_X17_isSort⟩
theorem tb_X17_apply : TB[62]? = some (md_X17_apply, tl_X17_apply) := rfl
theorem pr_X17_apply : (parseMethodDescriptor (mY md_X17_apply).desc).map (fun d => d.parameters.length) = some (mN md_X17_apply - 1) := by decide +kernel
theorem in_X17_apply : Jvm.Cond.instanceMethod (mY md_X17_apply) ∈ WB := (wb_10 154 rfl rfl)
theorem se_X17_apply : Jvm.Cond.selects (mY md_X17_apply).cls (mY md_X17_apply) (mY md_X17_apply) ∈ WB := (wb_10 155 rfl rfl)
theorem ho_X17_apply : HOK WB md_X17_apply := List.forall_mem_cons.mpr ⟨fun h => absurd h (by decide), fun _ h => absurd h List.not_mem_nil⟩
theorem mo_X17_apply : MOK WB md_X17_apply := ⟨by decide, (wb_10 156 rfl rfl), (wb_1 13 rfl rfl), by decide +kernel, ⟨by decide +kernel, by decide +kernel⟩, rfl, (fun h => by cases h), by decide, ho_X17_apply⟩
theorem tb_X14_init : TB[63]? = some (md_X14_init, tl_X14_init) := rfl
theorem pr_X14_init : (parseMethodDescriptor (mY md_X14_init).desc).map (fun d => d.parameters.length) = some (mN md_X14_init - 1) := by decide +kernel
theorem in_X14_init : Jvm.Cond.instanceMethod (mY md_X14_init) ∈ WB := (wb_9 141 rfl rfl)
theorem ho_X14_init : HOK WB md_X14_init := fun _ h => absurd h List.not_mem_nil
theorem mo_X14_init : MOK WB md_X14_init := ⟨by decide, (wb_9 142 rfl rfl), (wb_1 33 rfl rfl), by decide +kernel, ⟨by decide +kernel, by decide +kernel⟩, rfl, (fun _ => rfl), by decide, ho_X14_init⟩
theorem tb_X0_bringUpToDate : TB[64]? = some (md_X0_bringUpToDate, tl_X0_bringUpToDate) := rfl
theorem pr_X0_bringUpToDate : (parseMethodDescriptor (mY md_X0_bringUpToDate).desc).map (fun d => d.parameters.length) = some (mN md_X0_bringUpToDate - 1) := by decide +kernel
theorem in_X0_bringUpToDate : Jvm.Cond.instanceMethod (mY md_X0_bringUpToDate) ∈ WB := (wb_3 138 rfl rfl)
theorem se_X0_bringUpToDate : Jvm.Cond.selects (mY md_X0_bringUpToDate).cls (mY md_X0_bringUpToDate) (mY md_X0_bringUpToDate) ∈ WB := (wb_3 139 rfl rfl)
theorem ho_X0_bringUpToDate : HOK WB md_X0_bringUpToDate := fun _ h => absurd h List.not_mem_nil
theorem mo_X0_bringUpToDate : MOK WB md_X0_bringUpToDate := ⟨by decide, (wb_3 140 rfl rfl), (wb_1 12 rfl rfl), by decide +kernel, ⟨by decide +kernel, by decide +kernel⟩, rfl, (fun h => by cases h), by decide, ho_X0_bringUpToDate⟩
theorem tb_X17_below : TB[65]? = some (md_X17_below, tl_X17_below) := rfl
theorem pr_X17_below : (parseMethodDescriptor (mY md_X17_below).desc).map (fun d => d.parameters.length) = some (mN md_X17_below - 1) := by decide +kernel
theorem in_X17_below : Jvm.Cond.instanceMethod (mY md_X17_below) ∈ WB := (wb_10 126 rfl rfl)
theorem se_X17_below : Jvm.Cond.selects (mY md_X17_below).cls (mY md_X17_below) (mY md_X17_below) ∈ WB := (wb_10 127 rfl rfl)
theorem ho_X17_below : HOK WB md_X17_below := fun _ h => absurd h List.not_mem_nil
theorem mo_X17_below : MOK WB md_X17_below := ⟨by decide, (wb_10 128 rfl rfl), (wb_1 13 rfl rfl), by decide +kernel, ⟨by decide +kernel, by decide +kernel⟩, rfl, (fun h => by cases h), by decide, ho_X17_below⟩
theorem tb_X17_variable : TB[66]? = some (md_X17_variable, tl_X17_variable) := rfl
theorem pr_X17_variable : (parseMethodDescriptor (mY md_X17_variable).desc).map (fun d => d.parameters.length) = some (mN md_X17_variable - 1) := by decide +kernel
theorem in_X17_variable : Jvm.Cond.instanceMethod (mY md_X17_variable) ∈ WB := (wb_10 134 rfl rfl)
theorem se_X17_variable : Jvm.Cond.selects (mY md_X17_variable).cls (mY md_X17_variable) (mY md_X17_variable) ∈ WB := (wb_10 135 rfl rfl)
theorem ho_X17_variable : HOK WB md_X17_variable := fun _ h => absurd h List.not_mem_nil
theorem mo_X17_variable : MOK WB md_X17_variable := ⟨by decide, (wb_10 136 rfl rfl), (wb_1 13 rfl rfl), by decide +kernel, ⟨by decide +kernel, by decide +kernel⟩, rfl, (fun h => by cases h), by decide, ho_X17_variable⟩
theorem tb_X7_hasSort : TB[67]? = some (md_X7_hasSort, tl_X7_hasSort) := rfl
theorem pr_X7_hasSort : (parseMethodDescriptor (mY md_X7_hasSort).desc).map (fun d => d.parameters.length) = some (mN md_X7_hasSort - 1) := by decide +kernel
theorem in_X7_hasSort : Jvm.Cond.instanceMethod (mY md_X7_hasSort) ∈ WB := (wb_5 26 rfl rfl)
theorem se_X7_hasSort : Jvm.Cond.selects (mY md_X7_hasSort).cls (mY md_X7_hasSort) (mY md_X7_hasSort) ∈ WB := (wb_5 27 rfl rfl)
theorem ho_X7_hasSort : HOK WB md_X7_hasSort := fun _ h => absurd h List.not_mem_nil
theorem mo_X7_hasSort : MOK WB md_X7_hasSort := ⟨by decide, (wb_5 28 rfl rfl), (wb_1 2 rfl rfl), by decide +kernel, ⟨by decide +kernel, by decide +kernel⟩, rfl, (fun h => by cases h), by decide, ho_X7_hasSort⟩
theorem tb_X17_sort : TB[68]? = some (md_X17_sort, tl_X17_sort) := rfl
theorem pr_X17_sort : (parseMethodDescriptor (mY md_X17_sort).desc).map (fun d => d.parameters.length) = some (mN md_X17_sort - 1) := by decide +kernel
theorem in_X17_sort : Jvm.Cond.instanceMethod (mY md_X17_sort) ∈ WB := (wb_10 122 rfl rfl)
theorem se_X17_sort : Jvm.Cond.selects (mY md_X17_sort).cls (mY md_X17_sort) (mY md_X17_sort) ∈ WB := (wb_10 123 rfl rfl)
theorem ho_X17_sort : HOK WB md_X17_sort := fun _ h => absurd h List.not_mem_nil
theorem mo_X17_sort : MOK WB md_X17_sort := ⟨by decide, (wb_10 124 rfl rfl), (wb_1 13 rfl rfl), by decide +kernel, ⟨by decide +kernel, by decide +kernel⟩, rfl, (fun h => by cases h), by decide, ho_X17_sort⟩
theorem tb_L_declare : TB[69]? = some (md_L_declare, tl_L_declare) := rfl
theorem pr_L_declare : (parseMethodDescriptor (mY md_L_declare).desc).map (fun d => d.parameters.length) = some (mN md_L_declare) := by decide +kernel
theorem st_L_declare : Jvm.Cond.static (mY md_L_declare) ∈ WB := (wb_5 105 rfl rfl)
theorem ho_L_declare : HOK WB md_L_declare := List.forall_mem_cons.mpr ⟨fun _ => ⟨by decide, (wb_5 20 rfl rfl)⟩, List.forall_mem_cons.mpr ⟨fun _ => ⟨by decide, (wb_4 183 rfl rfl)⟩, fun _ h => absurd h List.not_mem_nil⟩⟩
theorem mo_L_declare : MOK WB md_L_declare := ⟨by decide, (wb_5 106 rfl rfl), (wb_1 0 rfl rfl), by decide +kernel, ⟨by decide +kernel, by decide +kernel⟩, rfl, (fun h => by cases h), by decide, ho_L_declare⟩
theorem tb_L_keep : TB[70]? = some (md_L_keep, tl_L_keep) := rfl
theorem pr_L_keep : (parseMethodDescriptor (mY md_L_keep).desc).map (fun d => d.parameters.length) = some (mN md_L_keep) := by decide +kernel
theorem st_L_keep : Jvm.Cond.static (mY md_L_keep) ∈ WB := (wb_5 146 rfl rfl)
theorem ho_L_keep : HOK WB md_L_keep := List.forall_mem_cons.mpr ⟨fun _ => ⟨by decide, (wb_5 55 rfl rfl)⟩, List.forall_mem_cons.mpr ⟨fun _ => ⟨by decide, (wb_4 183 rfl rfl)⟩, fun _ h => absurd h List.not_mem_nil⟩⟩
theorem mo_L_keep : MOK WB md_L_keep := ⟨by decide, (wb_5 147 rfl rfl), (wb_1 0 rfl rfl), by decide +kernel, ⟨by decide +kernel, by decide +kernel⟩, rfl, (fun h => by cases h), by decide, ho_L_keep⟩
theorem tb_L_holds : TB[71]? = some (md_L_holds, tl_L_holds) := rfl
theorem pr_L_holds : (parseMethodDescriptor (mY md_L_holds).desc).map (fun d => d.parameters.length) = some (mN md_L_holds) := by decide +kernel
theorem st_L_holds : Jvm.Cond.static (mY md_L_holds) ∈ WB := (wb_6 108 rfl rfl)
theorem ho_L_holds : HOK WB md_L_holds := List.forall_mem_cons.mpr ⟨fun _ => ⟨by decide, (wb_5 55 rfl rfl)⟩, List.forall_mem_cons.mpr ⟨fun _ => ⟨by decide, (wb_4 183 rfl rfl)⟩, fun _ h => absurd h List.not_mem_nil⟩⟩
theorem mo_L_holds : MOK WB md_L_holds := ⟨by decide, (wb_6 109 rfl rfl), (wb_1 0 rfl rfl), by decide +kernel, ⟨by decide +kernel, by decide +kernel⟩, rfl, (fun h => by cases h), by decide, ho_L_holds⟩
theorem tb_L_both : TB[72]? = some (md_L_both, tl_L_both) := rfl
theorem pr_L_both : (parseMethodDescriptor (mY md_L_both).desc).map (fun d => d.parameters.length) = some (mN md_L_both) := by decide +kernel
theorem st_L_both : Jvm.Cond.static (mY md_L_both) ∈ WB := (wb_6 160 rfl rfl)
theorem ho_L_both : HOK WB md_L_both := List.forall_mem_cons.mpr ⟨fun _ => ⟨by decide, (wb_4 183 rfl rfl)⟩, fun _ h => absurd h List.not_mem_nil⟩
theorem mo_L_both : MOK WB md_L_both := ⟨by decide, (wb_6 161 rfl rfl), (wb_1 0 rfl rfl), by decide +kernel, ⟨by decide +kernel, by decide +kernel⟩, rfl, (fun h => by cases h), by decide, ho_L_both⟩
theorem tb_X10_joins : TB[73]? = some (md_X10_joins, tl_X10_joins) := rfl
theorem pr_X10_joins : (parseMethodDescriptor (mY md_X10_joins).desc).map (fun d => d.parameters.length) = some (mN md_X10_joins - 1) := by decide +kernel
theorem in_X10_joins : Jvm.Cond.instanceMethod (mY md_X10_joins) ∈ WB := (wb_6 235 rfl rfl)
theorem se_X10_joins : Jvm.Cond.selects (mY md_X10_joins).cls (mY md_X10_joins) (mY md_X10_joins) ∈ WB := (wb_6 236 rfl rfl)
theorem ho_X10_joins : HOK WB md_X10_joins := fun _ h => absurd h List.not_mem_nil
theorem mo_X10_joins : MOK WB md_X10_joins := ⟨by decide, (wb_6 237 rfl rfl), (wb_1 1 rfl rfl), by decide +kernel, ⟨by decide +kernel, by decide +kernel⟩, rfl, (fun h => by cases h), by decide, ho_X10_joins⟩
theorem tb_X17_idle : TB[74]? = some (md_X17_idle, tl_X17_idle) := rfl
theorem pr_X17_idle : (parseMethodDescriptor (mY md_X17_idle).desc).map (fun d => d.parameters.length) = some (mN md_X17_idle - 1) := by decide +kernel
theorem in_X17_idle : Jvm.Cond.instanceMethod (mY md_X17_idle) ∈ WB := (wb_9 174 rfl rfl)
theorem se_X17_idle : Jvm.Cond.selects (mY md_X17_idle).cls (mY md_X17_idle) (mY md_X17_idle) ∈ WB := (wb_9 175 rfl rfl)
theorem ho_X17_idle : HOK WB md_X17_idle := fun _ h => absurd h List.not_mem_nil
theorem mo_X17_idle : MOK WB md_X17_idle := ⟨by decide, (wb_9 176 rfl rfl), (wb_1 13 rfl rfl), by decide +kernel, ⟨by decide +kernel, by decide +kernel⟩, rfl, (fun h => by cases h), by decide, ho_X17_idle⟩
theorem tb_X5_addOne : TB[75]? = some (md_X5_addOne, tl_X5_addOne) := rfl
theorem pr_X5_addOne : (parseMethodDescriptor (mY md_X5_addOne).desc).map (fun d => d.parameters.length) = some (mN md_X5_addOne - 1) := by decide +kernel
theorem in_X5_addOne : Jvm.Cond.instanceMethod (mY md_X5_addOne) ∈ WB := (wb_6 130 rfl rfl)
theorem se_X5_addOne : Jvm.Cond.selects (mY md_X5_addOne).cls (mY md_X5_addOne) (mY md_X5_addOne) ∈ WB := (wb_6 131 rfl rfl)
theorem ho_X5_addOne : HOK WB md_X5_addOne := fun _ h => absurd h List.not_mem_nil
theorem mo_X5_addOne : MOK WB md_X5_addOne := ⟨by decide, (wb_6 132 rfl rfl), (wb_1 11 rfl rfl), by decide +kernel, ⟨by decide +kernel, by decide +kernel⟩, rfl, (fun h => by cases h), by decide, ho_X5_addOne⟩
theorem tb_X17_hasBoth : TB[76]? = some (md_X17_hasBoth, tl_X17_hasBoth) := rfl
theorem pr_X17_hasBoth : (parseMethodDescriptor (mY md_X17_hasBoth).desc).map (fun d => d.parameters.length) = some (mN md_X17_hasBoth - 1) := by decide +kernel
theorem in_X17_hasBoth : Jvm.Cond.instanceMethod (mY md_X17_hasBoth) ∈ WB := (wb_10 183 rfl rfl)
theorem se_X17_hasBoth : Jvm.Cond.selects (mY md_X17_hasBoth).cls (mY md_X17_hasBoth) (mY md_X17_hasBoth) ∈ WB := (wb_0 103 rfl rfl)
theorem ho_X17_hasBoth : HOK WB md_X17_hasBoth := fun _ h => absurd h List.not_mem_nil
theorem mo_X17_hasBoth : MOK WB md_X17_hasBoth := ⟨by decide, (wb_10 184 rfl rfl), (wb_1 13 rfl rfl), by decide +kernel, ⟨by decide +kernel, by decide +kernel⟩, rfl, (fun h => by cases h), by decide, ho_X17_hasBoth⟩
theorem tb_Jx4a65c_clear_da8c8 : TB[77]? = some (md_Jx4a65c_clear_da8c8, tl_Jx4a65c_clear_da8c8) := rfl
theorem pr_Jx4a65c_clear_da8c8 : (parseMethodDescriptor (mY md_Jx4a65c_clear_da8c8).desc).map (fun d => d.parameters.length) = some (mN md_Jx4a65c_clear_da8c8 - 1) := by decide +kernel
theorem in_Jx4a65c_clear_da8c8 : Jvm.Cond.instanceMethod (mY md_Jx4a65c_clear_da8c8) ∈ WB := (wb_8 24 rfl rfl)
theorem ho_Jx4a65c_clear_da8c8 : HOK WB md_Jx4a65c_clear_da8c8 := fun _ h => absurd h List.not_mem_nil
theorem mo_Jx4a65c_clear_da8c8 : MOK WB md_Jx4a65c_clear_da8c8 := ⟨by decide, (wb_8 26 rfl rfl), (wb_1 16 rfl rfl), by decide +kernel, ⟨by decide +kernel, by decide +kernel⟩, rfl, (fun h => by cases h), by decide, ho_Jx4a65c_clear_da8c8⟩
theorem tb_X8_giveNothing : TB[78]? = some (md_X8_giveNothing, tl_X8_giveNothing) := rfl
theorem pr_X8_giveNothing : (parseMethodDescriptor (mY md_X8_giveNothing).desc).map (fun d => d.parameters.length) = some (mN md_X8_giveNothing - 1) := by decide +kernel
theorem in_X8_giveNothing : Jvm.Cond.instanceMethod (mY md_X8_giveNothing) ∈ WB := (wb_3 133 rfl rfl)
theorem se_X8_giveNothing : Jvm.Cond.selects (mY md_X8_giveNothing).cls (mY md_X8_giveNothing) (mY md_X8_giveNothing) ∈ WB := (wb_3 134 rfl rfl)
theorem ho_X8_giveNothing : HOK WB md_X8_giveNothing := fun _ h => absurd h List.not_mem_nil
theorem mo_X8_giveNothing : MOK WB md_X8_giveNothing := ⟨by decide, (wb_3 135 rfl rfl), (wb_1 4 rfl rfl), by decide +kernel, ⟨by decide +kernel, by decide +kernel⟩, rfl, (fun h => by cases h), by decide, ho_X8_giveNothing⟩
theorem tb_L_weight : TB[79]? = some (md_L_weight, tl_L_weight) := rfl
theorem pr_L_weight : (parseMethodDescriptor (mY md_L_weight).desc).map (fun d => d.parameters.length) = some (mN md_L_weight) := by decide +kernel
theorem st_L_weight : Jvm.Cond.static (mY md_L_weight) ∈ WB := (wb_7 0 rfl rfl)
theorem ho_L_weight : HOK WB md_L_weight := List.forall_mem_cons.mpr ⟨fun _ => ⟨by decide, (wb_5 20 rfl rfl)⟩, List.forall_mem_cons.mpr ⟨fun _ => ⟨by decide, (wb_5 55 rfl rfl)⟩, fun _ h => absurd h List.not_mem_nil⟩⟩
theorem mo_L_weight : MOK WB md_L_weight := ⟨by decide, (wb_7 1 rfl rfl), (wb_1 0 rfl rfl), by decide +kernel, ⟨by decide +kernel, by decide +kernel⟩, rfl, (fun h => by cases h), by decide, ho_L_weight⟩
theorem tb_X5_addPart : TB[80]? = some (md_X5_addPart, tl_X5_addPart) := rfl
theorem pr_X5_addPart : (parseMethodDescriptor (mY md_X5_addPart).desc).map (fun d => d.parameters.length) = some (mN md_X5_addPart - 1) := by decide +kernel
theorem in_X5_addPart : Jvm.Cond.instanceMethod (mY md_X5_addPart) ∈ WB := (wb_6 135 rfl rfl)
theorem se_X5_addPart : Jvm.Cond.selects (mY md_X5_addPart).cls (mY md_X5_addPart) (mY md_X5_addPart) ∈ WB := (wb_0 35 rfl rfl)
theorem ho_X5_addPart : HOK WB md_X5_addPart := fun _ h => absurd h List.not_mem_nil
theorem mo_X5_addPart : MOK WB md_X5_addPart := ⟨by decide, (wb_6 136 rfl rfl), (wb_1 11 rfl rfl), by decide +kernel, ⟨by decide +kernel, by decide +kernel⟩, rfl, (fun h => by cases h), by decide, ho_X5_addPart⟩
theorem tb_X17_fitting : TB[81]? = some (md_X17_fitting, tl_X17_fitting) := rfl
theorem pr_X17_fitting : (parseMethodDescriptor (mY md_X17_fitting).desc).map (fun d => d.parameters.length) = some (mN md_X17_fitting - 1) := by decide +kernel
theorem in_X17_fitting : Jvm.Cond.instanceMethod (mY md_X17_fitting) ∈ WB := (wb_10 106 rfl rfl)
theorem se_X17_fitting : Jvm.Cond.selects (mY md_X17_fitting).cls (mY md_X17_fitting) (mY md_X17_fitting) ∈ WB := (wb_10 107 rfl rfl)
theorem ho_X17_fitting : HOK WB md_X17_fitting := fun _ h => absurd h List.not_mem_nil
theorem mo_X17_fitting : MOK WB md_X17_fitting := ⟨by decide, (wb_10 108 rfl rfl), (wb_1 13 rfl rfl), by decide +kernel, ⟨by decide +kernel, by decide +kernel⟩, rfl, (fun h => by cases h), by decide, ho_X17_fitting⟩
theorem tb_X17_matching : TB[82]? = some (md_X17_matching, tl_X17_matching) := rfl
theorem pr_X17_matching : (parseMethodDescriptor (mY md_X17_matching).desc).map (fun d => d.parameters.length) = some (mN md_X17_matching - 1) := by decide +kernel
theorem in_X17_matching : Jvm.Cond.instanceMethod (mY md_X17_matching) ∈ WB := (wb_10 118 rfl rfl)
theorem se_X17_matching : Jvm.Cond.selects (mY md_X17_matching).cls (mY md_X17_matching) (mY md_X17_matching) ∈ WB := (wb_10 119 rfl rfl)
theorem ho_X17_matching : HOK WB md_X17_matching := fun _ h => absurd h List.not_mem_nil
theorem mo_X17_matching : MOK WB md_X17_matching := ⟨by decide, (wb_10 120 rfl rfl), (wb_1 13 rfl rfl), by decide +kernel, ⟨by decide +kernel, by decide +kernel⟩, rfl, (fun h => by cases h), by decide, ho_X17_matching⟩
theorem tb_X10_sort : TB[83]? = some (md_X10_sort, tl_X10_sort) := rfl
theorem pr_X10_sort : (parseMethodDescriptor (mY md_X10_sort).desc).map (fun d => d.parameters.length) = some (mN md_X10_sort - 1) := by decide +kernel
theorem in_X10_sort : Jvm.Cond.instanceMethod (mY md_X10_sort) ∈ WB := (wb_4 185 rfl rfl)
theorem se_X10_sort : Jvm.Cond.selects (mY md_X10_sort).cls (mY md_X10_sort) (mY md_X10_sort) ∈ WB := (wb_4 186 rfl rfl)
theorem ho_X10_sort : HOK WB md_X10_sort := fun _ h => absurd h List.not_mem_nil
theorem mo_X10_sort : MOK WB md_X10_sort := ⟨by decide, (wb_4 187 rfl rfl), (wb_1 1 rfl rfl), by decide +kernel, ⟨by decide +kernel, by decide +kernel⟩, rfl, (fun h => by cases h), by decide, ho_X10_sort⟩
theorem tb_X10_keep : TB[84]? = some (md_X10_keep, tl_X10_keep) := rfl
theorem pr_X10_keep : (parseMethodDescriptor (mY md_X10_keep).desc).map (fun d => d.parameters.length) = some (mN md_X10_keep - 1) := by decide +kernel
theorem in_X10_keep : Jvm.Cond.instanceMethod (mY md_X10_keep) ∈ WB := (wb_5 149 rfl rfl)
theorem se_X10_keep : Jvm.Cond.selects (mY md_X10_keep).cls (mY md_X10_keep) (mY md_X10_keep) ∈ WB := (wb_5 150 rfl rfl)
theorem ho_X10_keep : HOK WB md_X10_keep := fun _ h => absurd h List.not_mem_nil
theorem mo_X10_keep : MOK WB md_X10_keep := ⟨by decide, (wb_5 151 rfl rfl), (wb_1 1 rfl rfl), by decide +kernel, ⟨by decide +kernel, by decide +kernel⟩, rfl, (fun h => by cases h), by decide, ho_X10_keep⟩
theorem tb_X10_holds : TB[85]? = some (md_X10_holds, tl_X10_holds) := rfl
theorem pr_X10_holds : (parseMethodDescriptor (mY md_X10_holds).desc).map (fun d => d.parameters.length) = some (mN md_X10_holds - 1) := by decide +kernel
theorem in_X10_holds : Jvm.Cond.instanceMethod (mY md_X10_holds) ∈ WB := (wb_6 111 rfl rfl)
theorem se_X10_holds : Jvm.Cond.selects (mY md_X10_holds).cls (mY md_X10_holds) (mY md_X10_holds) ∈ WB := (wb_6 112 rfl rfl)
theorem ho_X10_holds : HOK WB md_X10_holds := fun _ h => absurd h List.not_mem_nil
theorem mo_X10_holds : MOK WB md_X10_holds := ⟨by decide, (wb_6 113 rfl rfl), (wb_1 1 rfl rfl), by decide +kernel, ⟨by decide +kernel, by decide +kernel⟩, rfl, (fun h => by cases h), by decide, ho_X10_holds⟩
theorem tb_X10_both : TB[86]? = some (md_X10_both, tl_X10_both) := rfl
theorem pr_X10_both : (parseMethodDescriptor (mY md_X10_both).desc).map (fun d => d.parameters.length) = some (mN md_X10_both - 1) := by decide +kernel
theorem in_X10_both : Jvm.Cond.instanceMethod (mY md_X10_both) ∈ WB := (wb_6 163 rfl rfl)
theorem se_X10_both : Jvm.Cond.selects (mY md_X10_both).cls (mY md_X10_both) (mY md_X10_both) ∈ WB := (wb_6 164 rfl rfl)
theorem ho_X10_both : HOK WB md_X10_both := fun _ h => absurd h List.not_mem_nil
theorem mo_X10_both : MOK WB md_X10_both := ⟨by decide, (wb_6 165 rfl rfl), (wb_1 1 rfl rfl), by decide +kernel, ⟨by decide +kernel, by decide +kernel⟩, rfl, (fun h => by cases h), by decide, ho_X10_both⟩
theorem tb_X10_hasPatternAndSubject : TB[87]? = some (md_X10_hasPatternAndSubject, tl_X10_hasPatternAndSubject) := rfl
theorem pr_X10_hasPatternAndSubject : (parseMethodDescriptor (mY md_X10_hasPatternAndSubject).desc).map (fun d => d.parameters.length) = some (mN md_X10_hasPatternAndSubject - 1) := by decide +kernel
theorem in_X10_hasPatternAndSubject : Jvm.Cond.instanceMethod (mY md_X10_hasPatternAndSubject) ∈ WB := (wb_5 194 rfl rfl)
theorem se_X10_hasPatternAndSubject : Jvm.Cond.selects (mY md_X10_hasPatternAndSubject).cls (mY md_X10_hasPatternAndSubject) (mY md_X10_hasPatternAndSubject) ∈ WB := (wb_0 28 rfl rfl)
theorem ho_X10_hasPatternAndSubject : HOK WB md_X10_hasPatternAndSubject := fun _ h => absurd h List.not_mem_nil
theorem mo_X10_hasPatternAndSubject : MOK WB md_X10_hasPatternAndSubject := ⟨by decide, (wb_5 195 rfl rfl), (wb_1 1 rfl rfl), by decide +kernel, ⟨by decide +kernel, by decide +kernel⟩, rfl, (fun h => by cases h), by decide, ho_X10_hasPatternAndSubject⟩
theorem tb_L_below : TB[88]? = some (md_L_below, tl_L_below) := rfl
theorem pr_L_below : (parseMethodDescriptor (mY md_L_below).desc).map (fun d => d.parameters.length) = some (mN md_L_below) := by decide +kernel
theorem st_L_below : Jvm.Cond.static (mY md_L_below) ∈ WB := (wb_5 18 rfl rfl)
theorem ho_L_below : HOK WB md_L_below := List.forall_mem_cons.mpr ⟨fun _ => ⟨by decide, (wb_5 20 rfl rfl)⟩, List.forall_mem_cons.mpr ⟨fun _ => ⟨by decide, (wb_4 183 rfl rfl)⟩, fun _ h => absurd h List.not_mem_nil⟩⟩
theorem mo_L_below : MOK WB md_L_below := ⟨by decide, (wb_5 19 rfl rfl), (wb_1 0 rfl rfl), by decide +kernel, ⟨by decide +kernel, by decide +kernel⟩, rfl, (fun h => by cases h), by decide, ho_L_below⟩
theorem tb_L_variable : TB[89]? = some (md_L_variable, tl_L_variable) := rfl
theorem pr_L_variable : (parseMethodDescriptor (mY md_L_variable).desc).map (fun d => d.parameters.length) = some (mN md_L_variable) := by decide +kernel
theorem st_L_variable : Jvm.Cond.static (mY md_L_variable) ∈ WB := (wb_5 53 rfl rfl)
theorem ho_L_variable : HOK WB md_L_variable := List.forall_mem_cons.mpr ⟨fun _ => ⟨by decide, (wb_5 20 rfl rfl)⟩, List.forall_mem_cons.mpr ⟨fun _ => ⟨by decide, (wb_5 55 rfl rfl)⟩, List.forall_mem_cons.mpr ⟨fun _ => ⟨by decide, (wb_4 183 rfl rfl)⟩, fun _ h => absurd h List.not_mem_nil⟩⟩⟩
theorem mo_L_variable : MOK WB md_L_variable := ⟨by decide, (wb_5 54 rfl rfl), (wb_1 0 rfl rfl), by decide +kernel, ⟨by decide +kernel, by decide +kernel⟩, rfl, (fun h => by cases h), by decide, ho_L_variable⟩
theorem tb_L_view : TB[90]? = some (md_L_view, tl_L_view) := rfl
theorem pr_L_view : (parseMethodDescriptor (mY md_L_view).desc).map (fun d => d.parameters.length) = some (mN md_L_view) := by decide +kernel
theorem st_L_view : Jvm.Cond.static (mY md_L_view) ∈ WB := (wb_7 19 rfl rfl)
theorem ho_L_view : HOK WB md_L_view := List.forall_mem_cons.mpr ⟨fun _ => ⟨by decide, (wb_5 20 rfl rfl)⟩, List.forall_mem_cons.mpr ⟨fun _ => ⟨by decide, (wb_5 55 rfl rfl)⟩, fun _ h => absurd h List.not_mem_nil⟩⟩
theorem mo_L_view : MOK WB md_L_view := ⟨by decide, (wb_7 20 rfl rfl), (wb_1 0 rfl rfl), by decide +kernel, ⟨by decide +kernel, by decide +kernel⟩, rfl, (fun h => by cases h), by decide, ho_L_view⟩
theorem tb_X17_many : TB[91]? = some (md_X17_many, tl_X17_many) := rfl
theorem pr_X17_many : (parseMethodDescriptor (mY md_X17_many).desc).map (fun d => d.parameters.length) = some (mN md_X17_many - 1) := by decide +kernel
theorem in_X17_many : Jvm.Cond.instanceMethod (mY md_X17_many) ∈ WB := (wb_9 186 rfl rfl)
theorem se_X17_many : Jvm.Cond.selects (mY md_X17_many).cls (mY md_X17_many) (mY md_X17_many) ∈ WB := (wb_9 187 rfl rfl)
theorem ho_X17_many : HOK WB md_X17_many := fun _ h => absurd h List.not_mem_nil
theorem mo_X17_many : MOK WB md_X17_many := ⟨by decide, (wb_9 188 rfl rfl), (wb_1 13 rfl rfl), by decide +kernel, ⟨by decide +kernel, by decide +kernel⟩, rfl, (fun h => by cases h), by decide, ho_X17_many⟩
theorem tb_L_apply : TB[92]? = some (md_L_apply, tl_L_apply) := rfl
theorem pr_L_apply : (parseMethodDescriptor (mY md_L_apply).desc).map (fun d => d.parameters.length) = some (mN md_L_apply) := by decide +kernel
theorem st_L_apply : Jvm.Cond.static (mY md_L_apply) ∈ WB := (wb_5 134 rfl rfl)
theorem ho_L_apply : HOK WB md_L_apply := List.forall_mem_cons.mpr ⟨fun _ => ⟨by decide, (wb_5 20 rfl rfl)⟩, List.forall_mem_cons.mpr ⟨fun _ => ⟨by decide, (wb_4 183 rfl rfl)⟩, fun _ h => absurd h List.not_mem_nil⟩⟩
theorem mo_L_apply : MOK WB md_L_apply := ⟨by decide, (wb_5 135 rfl rfl), (wb_1 0 rfl rfl), by decide +kernel, ⟨by decide +kernel, by decide +kernel⟩, rfl, (fun h => by cases h), by decide, ho_L_apply⟩
theorem tb_L_state : TB[93]? = some (md_L_state, tl_L_state) := rfl
theorem pr_L_state : (parseMethodDescriptor (mY md_L_state).desc).map (fun d => d.parameters.length) = some (mN md_L_state) := by decide +kernel
theorem st_L_state : Jvm.Cond.static (mY md_L_state) ∈ WB := (wb_6 75 rfl rfl)
theorem ho_L_state : HOK WB md_L_state := List.forall_mem_cons.mpr ⟨fun _ => ⟨by decide, (wb_5 20 rfl rfl)⟩, List.forall_mem_cons.mpr ⟨fun _ => ⟨by decide, (wb_4 183 rfl rfl)⟩, fun _ h => absurd h List.not_mem_nil⟩⟩
theorem mo_L_state : MOK WB md_L_state := ⟨by decide, (wb_6 76 rfl rfl), (wb_1 0 rfl rfl), by decide +kernel, ⟨by decide +kernel, by decide +kernel⟩, rfl, (fun h => by cases h), by decide, ho_L_state⟩
theorem tb_L_cameBy : TB[94]? = some (md_L_cameBy, tl_L_cameBy) := rfl
theorem pr_L_cameBy : (parseMethodDescriptor (mY md_L_cameBy).desc).map (fun d => d.parameters.length) = some (mN md_L_cameBy) := by decide +kernel
theorem st_L_cameBy : Jvm.Cond.static (mY md_L_cameBy) ∈ WB := (wb_6 83 rfl rfl)
theorem ho_L_cameBy : HOK WB md_L_cameBy := List.forall_mem_cons.mpr ⟨fun _ => ⟨by decide, (wb_5 20 rfl rfl)⟩, fun _ h => absurd h List.not_mem_nil⟩
theorem mo_L_cameBy : MOK WB md_L_cameBy := ⟨by decide, (wb_6 84 rfl rfl), (wb_1 0 rfl rfl), by decide +kernel, ⟨by decide +kernel, by decide +kernel⟩, rfl, (fun h => by cases h), by decide, ho_L_cameBy⟩
theorem tb_L_use : TB[95]? = some (md_L_use, tl_L_use) := rfl
theorem pr_L_use : (parseMethodDescriptor (mY md_L_use).desc).map (fun d => d.parameters.length) = some (mN md_L_use) := by decide +kernel
theorem st_L_use : Jvm.Cond.static (mY md_L_use) ∈ WB := (wb_6 121 rfl rfl)
theorem ho_L_use : HOK WB md_L_use := List.forall_mem_cons.mpr ⟨fun _ => ⟨by decide, (wb_5 20 rfl rfl)⟩, List.forall_mem_cons.mpr ⟨fun _ => ⟨by decide, (wb_4 183 rfl rfl)⟩, fun _ h => absurd h List.not_mem_nil⟩⟩
theorem mo_L_use : MOK WB md_L_use := ⟨by decide, (wb_6 122 rfl rfl), (wb_1 0 rfl rfl), by decide +kernel, ⟨by decide +kernel, by decide +kernel⟩, rfl, (fun h => by cases h), by decide, ho_L_use⟩
theorem tb_L_joins : TB[96]? = some (md_L_joins, tl_L_joins) := rfl
theorem pr_L_joins : (parseMethodDescriptor (mY md_L_joins).desc).map (fun d => d.parameters.length) = some (mN md_L_joins) := by decide +kernel
theorem st_L_joins : Jvm.Cond.static (mY md_L_joins) ∈ WB := (wb_6 232 rfl rfl)
theorem ho_L_joins : HOK WB md_L_joins := List.forall_mem_cons.mpr ⟨fun _ => ⟨by decide, (wb_5 20 rfl rfl)⟩, fun _ h => absurd h List.not_mem_nil⟩
theorem mo_L_joins : MOK WB md_L_joins := ⟨by decide, (wb_6 233 rfl rfl), (wb_1 0 rfl rfl), by decide +kernel, ⟨by decide +kernel, by decide +kernel⟩, rfl, (fun h => by cases h), by decide, ho_L_joins⟩
theorem tb_L_descends : TB[97]? = some (md_L_descends, tl_L_descends) := rfl
theorem pr_L_descends : (parseMethodDescriptor (mY md_L_descends).desc).map (fun d => d.parameters.length) = some (mN md_L_descends) := by decide +kernel
theorem st_L_descends : Jvm.Cond.static (mY md_L_descends) ∈ WB := (wb_7 9 rfl rfl)
theorem ho_L_descends : HOK WB md_L_descends := List.forall_mem_cons.mpr ⟨fun _ => ⟨by decide, (wb_5 20 rfl rfl)⟩, fun _ h => absurd h List.not_mem_nil⟩
theorem mo_L_descends : MOK WB md_L_descends := ⟨by decide, (wb_7 10 rfl rfl), (wb_1 0 rfl rfl), by decide +kernel, ⟨by decide +kernel, by decide +kernel⟩, rfl, (fun h => by cases h), by decide, ho_L_descends⟩
theorem tb_L_copy : TB[98]? = some (md_L_copy, tl_L_copy) := rfl
theorem pr_L_copy : (parseMethodDescriptor (mY md_L_copy).desc).map (fun d => d.parameters.length) = some (mN md_L_copy) := by decide +kernel
theorem st_L_copy : Jvm.Cond.static (mY md_L_copy) ∈ WB := (wb_7 27 rfl rfl)
theorem ho_L_copy : HOK WB md_L_copy := List.forall_mem_cons.mpr ⟨fun _ => ⟨by decide, (wb_5 20 rfl rfl)⟩, List.forall_mem_cons.mpr ⟨fun _ => ⟨by decide, (wb_4 183 rfl rfl)⟩, fun _ h => absurd h List.not_mem_nil⟩⟩
theorem mo_L_copy : MOK WB md_L_copy := ⟨by decide, (wb_7 28 rfl rfl), (wb_1 0 rfl rfl), by decide +kernel, ⟨by decide +kernel, by decide +kernel⟩, rfl, (fun h => by cases h), by decide, ho_L_copy⟩
theorem tb_X10_hasPattern : TB[99]? = some (md_X10_hasPattern, tl_X10_hasPattern) := rfl
theorem pr_X10_hasPattern : (parseMethodDescriptor (mY md_X10_hasPattern).desc).map (fun d => d.parameters.length) = some (mN md_X10_hasPattern - 1) := by decide +kernel
theorem in_X10_hasPattern : Jvm.Cond.instanceMethod (mY md_X10_hasPattern) ∈ WB := (wb_6 99 rfl rfl)
theorem se_X10_hasPattern : Jvm.Cond.selects (mY md_X10_hasPattern).cls (mY md_X10_hasPattern) (mY md_X10_hasPattern) ∈ WB := (wb_0 34 rfl rfl)
theorem ho_X10_hasPattern : HOK WB md_X10_hasPattern := fun _ h => absurd h List.not_mem_nil
theorem mo_X10_hasPattern : MOK WB md_X10_hasPattern := ⟨by decide, (wb_6 100 rfl rfl), (wb_1 1 rfl rfl), by decide +kernel, ⟨by decide +kernel, by decide +kernel⟩, rfl, (fun h => by cases h), by decide, ho_X10_hasPattern⟩
theorem tb_X17_test : TB[100]? = some (md_X17_test, tl_X17_test) := rfl
theorem pr_X17_test : (parseMethodDescriptor (mY md_X17_test).desc).map (fun d => d.parameters.length) = some (mN md_X17_test - 1) := by decide +kernel
theorem in_X17_test : Jvm.Cond.instanceMethod (mY md_X17_test) ∈ WB := (wb_9 178 rfl rfl)
theorem se_X17_test : Jvm.Cond.selects (mY md_X17_test).cls (mY md_X17_test) (mY md_X17_test) ∈ WB := (wb_9 179 rfl rfl)
theorem ho_X17_test : HOK WB md_X17_test := fun _ h => absurd h List.not_mem_nil
theorem mo_X17_test : MOK WB md_X17_test := ⟨by decide, (wb_9 180 rfl rfl), (wb_1 13 rfl rfl), by decide +kernel, ⟨by decide +kernel, by decide +kernel⟩, rfl, (fun h => by cases h), by decide, ho_X17_test⟩
theorem tb_X17_sortOf : TB[101]? = some (md_X17_sortOf, tl_X17_sortOf) := rfl
theorem pr_X17_sortOf : (parseMethodDescriptor (mY md_X17_sortOf).desc).map (fun d => d.parameters.length) = some (mN md_X17_sortOf - 1) := by decide +kernel
theorem in_X17_sortOf : Jvm.Cond.instanceMethod (mY md_X17_sortOf) ∈ WB := (wb_10 170 rfl rfl)
theorem se_X17_sortOf : Jvm.Cond.selects (mY md_X17_sortOf).cls (mY md_X17_sortOf) (mY md_X17_sortOf) ∈ WB := (wb_10 171 rfl rfl)
theorem ho_X17_sortOf : HOK WB md_X17_sortOf := fun _ h => absurd h List.not_mem_nil
theorem mo_X17_sortOf : MOK WB md_X17_sortOf := ⟨by decide, (wb_10 172 rfl rfl), (wb_1 13 rfl rfl), by decide +kernel, ⟨by decide +kernel, by decide +kernel⟩, rfl, (fun h => by cases h), by decide, ho_X17_sortOf⟩
theorem tb_X17_search : TB[102]? = some (md_X17_search, tl_X17_search) := rfl
theorem pr_X17_search : (parseMethodDescriptor (mY md_X17_search).desc).map (fun d => d.parameters.length) = some (mN md_X17_search - 1) := by decide +kernel
theorem in_X17_search : Jvm.Cond.instanceMethod (mY md_X17_search) ∈ WB := (wb_8 4 rfl rfl)
theorem se_X17_search : Jvm.Cond.selects (mY md_X17_search).cls (mY md_X17_search) (mY md_X17_search) ∈ WB := (wb_8 5 rfl rfl)
theorem ho_X17_search : HOK WB md_X17_search := List.forall_mem_cons.mpr ⟨fun h => absurd h (by decide), fun _ h => absurd h List.not_mem_nil⟩
theorem mo_X17_search : MOK WB md_X17_search := ⟨by decide, (wb_8 6 rfl rfl), (wb_1 13 rfl rfl), by decide +kernel, ⟨by decide +kernel, by decide +kernel⟩, rfl, (fun h => by cases h), by decide, ho_X17_search⟩
theorem tb_X17_finds : TB[103]? = some (md_X17_finds, tl_X17_finds) := rfl
theorem pr_X17_finds : (parseMethodDescriptor (mY md_X17_finds).desc).map (fun d => d.parameters.length) = some (mN md_X17_finds - 1) := by decide +kernel
theorem in_X17_finds : Jvm.Cond.instanceMethod (mY md_X17_finds) ∈ WB := (wb_9 112 rfl rfl)
theorem se_X17_finds : Jvm.Cond.selects (mY md_X17_finds).cls (mY md_X17_finds) (mY md_X17_finds) ∈ WB := (wb_9 113 rfl rfl)
theorem ho_X17_finds : HOK WB md_X17_finds := fun _ h => absurd h List.not_mem_nil
theorem mo_X17_finds : MOK WB md_X17_finds := ⟨by decide, (wb_9 114 rfl rfl), (wb_1 13 rfl rfl), by decide +kernel, ⟨by decide +kernel, by decide +kernel⟩, rfl, (fun h => by cases h), by decide, ho_X17_finds⟩
theorem tb_X17_run : TB[104]? = some (md_X17_run, tl_X17_run) := rfl
theorem pr_X17_run : (parseMethodDescriptor (mY md_X17_run).desc).map (fun d => d.parameters.length) = some (mN md_X17_run - 1) := by decide +kernel
theorem in_X17_run : Jvm.Cond.instanceMethod (mY md_X17_run) ∈ WB := (wb_9 190 rfl rfl)
theorem se_X17_run : Jvm.Cond.selects (mY md_X17_run).cls (mY md_X17_run) (mY md_X17_run) ∈ WB := (wb_9 191 rfl rfl)
theorem ho_X17_run : HOK WB md_X17_run := List.forall_mem_cons.mpr ⟨fun h => absurd h (by decide), List.forall_mem_cons.mpr ⟨fun h => absurd h (by decide), fun _ h => absurd h List.not_mem_nil⟩⟩
theorem mo_X17_run : MOK WB md_X17_run := ⟨by decide, (wb_9 192 rfl rfl), (wb_1 13 rfl rfl), by decide +kernel, ⟨by decide +kernel, by decide +kernel⟩, rfl, (fun h => by cases h), by decide, ho_X17_run⟩
theorem tb_X17_code : TB[105]? = some (md_X17_code, tl_X17_code) := rfl
theorem pr_X17_code : (parseMethodDescriptor (mY md_X17_code).desc).map (fun d => d.parameters.length) = some (mN md_X17_code - 1) := by decide +kernel
theorem in_X17_code : Jvm.Cond.instanceMethod (mY md_X17_code) ∈ WB := (wb_10 174 rfl rfl)
theorem se_X17_code : Jvm.Cond.selects (mY md_X17_code).cls (mY md_X17_code) (mY md_X17_code) ∈ WB := (wb_10 175 rfl rfl)
theorem ho_X17_code : HOK WB md_X17_code := fun _ h => absurd h List.not_mem_nil
theorem mo_X17_code : MOK WB md_X17_code := ⟨by decide, (wb_10 176 rfl rfl), (wb_1 13 rfl rfl), by decide +kernel, ⟨by decide +kernel, by decide +kernel⟩, rfl, (fun h => by cases h), by decide, ho_X17_code⟩
theorem tb_X17_reduce : TB[106]? = some (md_X17_reduce, tl_X17_reduce) := rfl
theorem pr_X17_reduce : (parseMethodDescriptor (mY md_X17_reduce).desc).map (fun d => d.parameters.length) = some (mN md_X17_reduce - 1) := by decide +kernel
theorem in_X17_reduce : Jvm.Cond.instanceMethod (mY md_X17_reduce) ∈ WB := (wb_10 237 rfl rfl)
theorem se_X17_reduce : Jvm.Cond.selects (mY md_X17_reduce).cls (mY md_X17_reduce) (mY md_X17_reduce) ∈ WB := (wb_10 238 rfl rfl)
theorem ho_X17_reduce : HOK WB md_X17_reduce := List.forall_mem_cons.mpr ⟨fun h => absurd h (by decide), fun _ h => absurd h List.not_mem_nil⟩
theorem mo_X17_reduce : MOK WB md_X17_reduce := ⟨by decide, (wb_10 239 rfl rfl), (wb_1 13 rfl rfl), by decide +kernel, ⟨by decide +kernel, by decide +kernel⟩, rfl, (fun h => by cases h), by decide, ho_X17_reduce⟩
theorem tb_X10_below : TB[107]? = some (md_X10_below, tl_X10_below) := rfl
theorem pr_X10_below : (parseMethodDescriptor (mY md_X10_below).desc).map (fun d => d.parameters.length) = some (mN md_X10_below - 1) := by decide +kernel
theorem in_X10_below : Jvm.Cond.instanceMethod (mY md_X10_below) ∈ WB := (wb_5 22 rfl rfl)
theorem se_X10_below : Jvm.Cond.selects (mY md_X10_below).cls (mY md_X10_below) (mY md_X10_below) ∈ WB := (wb_5 23 rfl rfl)
theorem ho_X10_below : HOK WB md_X10_below := fun _ h => absurd h List.not_mem_nil
theorem mo_X10_below : MOK WB md_X10_below := ⟨by decide, (wb_5 24 rfl rfl), (wb_1 1 rfl rfl), by decide +kernel, ⟨by decide +kernel, by decide +kernel⟩, rfl, (fun h => by cases h), by decide, ho_X10_below⟩
theorem tb_X10_variable : TB[108]? = some (md_X10_variable, tl_X10_variable) := rfl
theorem pr_X10_variable : (parseMethodDescriptor (mY md_X10_variable).desc).map (fun d => d.parameters.length) = some (mN md_X10_variable - 1) := by decide +kernel
theorem in_X10_variable : Jvm.Cond.instanceMethod (mY md_X10_variable) ∈ WB := (wb_5 57 rfl rfl)
theorem se_X10_variable : Jvm.Cond.selects (mY md_X10_variable).cls (mY md_X10_variable) (mY md_X10_variable) ∈ WB := (wb_5 58 rfl rfl)
theorem ho_X10_variable : HOK WB md_X10_variable := fun _ h => absurd h List.not_mem_nil
theorem mo_X10_variable : MOK WB md_X10_variable := ⟨by decide, (wb_5 59 rfl rfl), (wb_1 1 rfl rfl), by decide +kernel, ⟨by decide +kernel, by decide +kernel⟩, rfl, (fun h => by cases h), by decide, ho_X10_variable⟩
theorem tb_X10_declare : TB[109]? = some (md_X10_declare, tl_X10_declare) := rfl
theorem pr_X10_declare : (parseMethodDescriptor (mY md_X10_declare).desc).map (fun d => d.parameters.length) = some (mN md_X10_declare - 1) := by decide +kernel
theorem in_X10_declare : Jvm.Cond.instanceMethod (mY md_X10_declare) ∈ WB := (wb_5 108 rfl rfl)
theorem se_X10_declare : Jvm.Cond.selects (mY md_X10_declare).cls (mY md_X10_declare) (mY md_X10_declare) ∈ WB := (wb_5 109 rfl rfl)
theorem ho_X10_declare : HOK WB md_X10_declare := fun _ h => absurd h List.not_mem_nil
theorem mo_X10_declare : MOK WB md_X10_declare := ⟨by decide, (wb_5 110 rfl rfl), (wb_1 1 rfl rfl), by decide +kernel, ⟨by decide +kernel, by decide +kernel⟩, rfl, (fun h => by cases h), by decide, ho_X10_declare⟩
theorem tb_X10_apply : TB[110]? = some (md_X10_apply, tl_X10_apply) := rfl
theorem pr_X10_apply : (parseMethodDescriptor (mY md_X10_apply).desc).map (fun d => d.parameters.length) = some (mN md_X10_apply - 1) := by decide +kernel
theorem in_X10_apply : Jvm.Cond.instanceMethod (mY md_X10_apply) ∈ WB := (wb_5 137 rfl rfl)
theorem se_X10_apply : Jvm.Cond.selects (mY md_X10_apply).cls (mY md_X10_apply) (mY md_X10_apply) ∈ WB := (wb_5 138 rfl rfl)
theorem ho_X10_apply : HOK WB md_X10_apply := fun _ h => absurd h List.not_mem_nil
theorem mo_X10_apply : MOK WB md_X10_apply := ⟨by decide, (wb_5 139 rfl rfl), (wb_1 1 rfl rfl), by decide +kernel, ⟨by decide +kernel, by decide +kernel⟩, rfl, (fun h => by cases h), by decide, ho_X10_apply⟩
theorem tb_X10_weight : TB[111]? = some (md_X10_weight, tl_X10_weight) := rfl
theorem pr_X10_weight : (parseMethodDescriptor (mY md_X10_weight).desc).map (fun d => d.parameters.length) = some (mN md_X10_weight - 1) := by decide +kernel
theorem in_X10_weight : Jvm.Cond.instanceMethod (mY md_X10_weight) ∈ WB := (wb_7 3 rfl rfl)
theorem se_X10_weight : Jvm.Cond.selects (mY md_X10_weight).cls (mY md_X10_weight) (mY md_X10_weight) ∈ WB := (wb_7 4 rfl rfl)
theorem ho_X10_weight : HOK WB md_X10_weight := fun _ h => absurd h List.not_mem_nil
theorem mo_X10_weight : MOK WB md_X10_weight := ⟨by decide, (wb_7 5 rfl rfl), (wb_1 1 rfl rfl), by decide +kernel, ⟨by decide +kernel, by decide +kernel⟩, rfl, (fun h => by cases h), by decide, ho_X10_weight⟩
theorem tb_X10_view : TB[112]? = some (md_X10_view, tl_X10_view) := rfl
theorem pr_X10_view : (parseMethodDescriptor (mY md_X10_view).desc).map (fun d => d.parameters.length) = some (mN md_X10_view - 1) := by decide +kernel
theorem in_X10_view : Jvm.Cond.instanceMethod (mY md_X10_view) ∈ WB := (wb_7 22 rfl rfl)
theorem se_X10_view : Jvm.Cond.selects (mY md_X10_view).cls (mY md_X10_view) (mY md_X10_view) ∈ WB := (wb_7 23 rfl rfl)
theorem ho_X10_view : HOK WB md_X10_view := fun _ h => absurd h List.not_mem_nil
theorem mo_X10_view : MOK WB md_X10_view := ⟨by decide, (wb_7 24 rfl rfl), (wb_1 1 rfl rfl), by decide +kernel, ⟨by decide +kernel, by decide +kernel⟩, rfl, (fun h => by cases h), by decide, ho_X10_view⟩
theorem tb_X17_drop : TB[113]? = some (md_X17_drop, tl_X17_drop) := rfl
theorem pr_X17_drop : (parseMethodDescriptor (mY md_X17_drop).desc).map (fun d => d.parameters.length) = some (mN md_X17_drop - 1) := by decide +kernel
theorem in_X17_drop : Jvm.Cond.instanceMethod (mY md_X17_drop) ∈ WB := (wb_10 166 rfl rfl)
theorem se_X17_drop : Jvm.Cond.selects (mY md_X17_drop).cls (mY md_X17_drop) (mY md_X17_drop) ∈ WB := (wb_10 167 rfl rfl)
theorem ho_X17_drop : HOK WB md_X17_drop := fun _ h => absurd h List.not_mem_nil
theorem mo_X17_drop : MOK WB md_X17_drop := ⟨by decide, (wb_10 168 rfl rfl), (wb_1 13 rfl rfl), by decide +kernel, ⟨by decide +kernel, by decide +kernel⟩, rfl, (fun h => by cases h), by decide, ho_X17_drop⟩
theorem tb_X17_matches : TB[114]? = some (md_X17_matches, tl_X17_matches) := rfl
theorem pr_X17_matches : (parseMethodDescriptor (mY md_X17_matches).desc).map (fun d => d.parameters.length) = some (mN md_X17_matches - 1) := by decide +kernel
theorem in_X17_matches : Jvm.Cond.instanceMethod (mY md_X17_matches) ∈ WB := (wb_10 178 rfl rfl)
theorem se_X17_matches : Jvm.Cond.selects (mY md_X17_matches).cls (mY md_X17_matches) (mY md_X17_matches) ∈ WB := (wb_10 179 rfl rfl)
theorem ho_X17_matches : HOK WB md_X17_matches := fun _ h => absurd h List.not_mem_nil
theorem mo_X17_matches : MOK WB md_X17_matches := ⟨by decide, (wb_10 180 rfl rfl), (wb_1 13 rfl rfl), by decide +kernel, ⟨by decide +kernel, by decide +kernel⟩, rfl, (fun h => by cases h), by decide, ho_X17_matches⟩
theorem tb_X10_state : TB[115]? = some (md_X10_state, tl_X10_state) := rfl
theorem pr_X10_state : (parseMethodDescriptor (mY md_X10_state).desc).map (fun d => d.parameters.length) = some (mN md_X10_state - 1) := by decide +kernel
theorem in_X10_state : Jvm.Cond.instanceMethod (mY md_X10_state) ∈ WB := (wb_6 78 rfl rfl)
theorem se_X10_state : Jvm.Cond.selects (mY md_X10_state).cls (mY md_X10_state) (mY md_X10_state) ∈ WB := (wb_6 79 rfl rfl)
theorem ho_X10_state : HOK WB md_X10_state := fun _ h => absurd h List.not_mem_nil
theorem mo_X10_state : MOK WB md_X10_state := ⟨by decide, (wb_6 80 rfl rfl), (wb_1 1 rfl rfl), by decide +kernel, ⟨by decide +kernel, by decide +kernel⟩, rfl, (fun h => by cases h), by decide, ho_X10_state⟩
theorem tb_X10_cameBy : TB[116]? = some (md_X10_cameBy, tl_X10_cameBy) := rfl
theorem pr_X10_cameBy : (parseMethodDescriptor (mY md_X10_cameBy).desc).map (fun d => d.parameters.length) = some (mN md_X10_cameBy - 1) := by decide +kernel
theorem in_X10_cameBy : Jvm.Cond.instanceMethod (mY md_X10_cameBy) ∈ WB := (wb_6 86 rfl rfl)
theorem se_X10_cameBy : Jvm.Cond.selects (mY md_X10_cameBy).cls (mY md_X10_cameBy) (mY md_X10_cameBy) ∈ WB := (wb_6 87 rfl rfl)
theorem ho_X10_cameBy : HOK WB md_X10_cameBy := fun _ h => absurd h List.not_mem_nil
theorem mo_X10_cameBy : MOK WB md_X10_cameBy := ⟨by decide, (wb_6 88 rfl rfl), (wb_1 1 rfl rfl), by decide +kernel, ⟨by decide +kernel, by decide +kernel⟩, rfl, (fun h => by cases h), by decide, ho_X10_cameBy⟩
theorem tb_X10_use : TB[117]? = some (md_X10_use, tl_X10_use) := rfl
theorem pr_X10_use : (parseMethodDescriptor (mY md_X10_use).desc).map (fun d => d.parameters.length) = some (mN md_X10_use - 1) := by decide +kernel
theorem in_X10_use : Jvm.Cond.instanceMethod (mY md_X10_use) ∈ WB := (wb_6 124 rfl rfl)
theorem se_X10_use : Jvm.Cond.selects (mY md_X10_use).cls (mY md_X10_use) (mY md_X10_use) ∈ WB := (wb_6 125 rfl rfl)
theorem ho_X10_use : HOK WB md_X10_use := fun _ h => absurd h List.not_mem_nil
theorem mo_X10_use : MOK WB md_X10_use := ⟨by decide, (wb_6 126 rfl rfl), (wb_1 1 rfl rfl), by decide +kernel, ⟨by decide +kernel, by decide +kernel⟩, rfl, (fun h => by cases h), by decide, ho_X10_use⟩
theorem tb_X10_idle : TB[118]? = some (md_X10_idle, tl_X10_idle) := rfl
theorem pr_X10_idle : (parseMethodDescriptor (mY md_X10_idle).desc).map (fun d => d.parameters.length) = some (mN md_X10_idle - 1) := by decide +kernel
theorem in_X10_idle : Jvm.Cond.instanceMethod (mY md_X10_idle) ∈ WB := (wb_6 141 rfl rfl)
theorem se_X10_idle : Jvm.Cond.selects (mY md_X10_idle).cls (mY md_X10_idle) (mY md_X10_idle) ∈ WB := (wb_6 142 rfl rfl)
theorem ho_X10_idle : HOK WB md_X10_idle := fun _ h => absurd h List.not_mem_nil
theorem mo_X10_idle : MOK WB md_X10_idle := ⟨by decide, (wb_6 143 rfl rfl), (wb_1 1 rfl rfl), by decide +kernel, ⟨by decide +kernel, by decide +kernel⟩, rfl, (fun h => by cases h), by decide, ho_X10_idle⟩
theorem tb_X10_descends : TB[119]? = some (md_X10_descends, tl_X10_descends) := rfl
theorem pr_X10_descends : (parseMethodDescriptor (mY md_X10_descends).desc).map (fun d => d.parameters.length) = some (mN md_X10_descends - 1) := by decide +kernel
theorem in_X10_descends : Jvm.Cond.instanceMethod (mY md_X10_descends) ∈ WB := (wb_7 12 rfl rfl)
theorem se_X10_descends : Jvm.Cond.selects (mY md_X10_descends).cls (mY md_X10_descends) (mY md_X10_descends) ∈ WB := (wb_7 13 rfl rfl)
theorem ho_X10_descends : HOK WB md_X10_descends := fun _ h => absurd h List.not_mem_nil
theorem mo_X10_descends : MOK WB md_X10_descends := ⟨by decide, (wb_7 14 rfl rfl), (wb_1 1 rfl rfl), by decide +kernel, ⟨by decide +kernel, by decide +kernel⟩, rfl, (fun h => by cases h), by decide, ho_X10_descends⟩
theorem tb_X10_copy : TB[120]? = some (md_X10_copy, tl_X10_copy) := rfl
theorem pr_X10_copy : (parseMethodDescriptor (mY md_X10_copy).desc).map (fun d => d.parameters.length) = some (mN md_X10_copy - 1) := by decide +kernel
theorem in_X10_copy : Jvm.Cond.instanceMethod (mY md_X10_copy) ∈ WB := (wb_7 30 rfl rfl)
theorem se_X10_copy : Jvm.Cond.selects (mY md_X10_copy).cls (mY md_X10_copy) (mY md_X10_copy) ∈ WB := (wb_7 31 rfl rfl)
theorem ho_X10_copy : HOK WB md_X10_copy := fun _ h => absurd h List.not_mem_nil
theorem mo_X10_copy : MOK WB md_X10_copy := ⟨by decide, (wb_7 32 rfl rfl), (wb_1 1 rfl rfl), by decide +kernel, ⟨by decide +kernel, by decide +kernel⟩, rfl, (fun h => by cases h), by decide, ho_X10_copy⟩
theorem tb_X17_open : TB[121]? = some (md_X17_open, tl_X17_open) := rfl
theorem pr_X17_open : (parseMethodDescriptor (mY md_X17_open).desc).map (fun d => d.parameters.length) = some (mN md_X17_open - 1) := by decide +kernel
theorem in_X17_open : Jvm.Cond.instanceMethod (mY md_X17_open) ∈ WB := (wb_10 53 rfl rfl)
theorem se_X17_open : Jvm.Cond.selects (mY md_X17_open).cls (mY md_X17_open) (mY md_X17_open) ∈ WB := (wb_0 95 rfl rfl)
theorem ho_X17_open : HOK WB md_X17_open := fun _ h => absurd h List.not_mem_nil
theorem mo_X17_open : MOK WB md_X17_open := ⟨by decide, (wb_10 54 rfl rfl), (wb_1 13 rfl rfl), by decide +kernel, ⟨by decide +kernel, by decide +kernel⟩, rfl, (fun h => by cases h), by decide, ho_X17_open⟩
theorem tb_X17_matchesAnew : TB[122]? = some (md_X17_matchesAnew, tl_X17_matchesAnew) := rfl
theorem pr_X17_matchesAnew : (parseMethodDescriptor (mY md_X17_matchesAnew).desc).map (fun d => d.parameters.length) = some (mN md_X17_matchesAnew - 1) := by decide +kernel
theorem in_X17_matchesAnew : Jvm.Cond.instanceMethod (mY md_X17_matchesAnew) ∈ WB := (wb_10 191 rfl rfl)
theorem se_X17_matchesAnew : Jvm.Cond.selects (mY md_X17_matchesAnew).cls (mY md_X17_matchesAnew) (mY md_X17_matchesAnew) ∈ WB := (wb_10 192 rfl rfl)
theorem ho_X17_matchesAnew : HOK WB md_X17_matchesAnew := fun _ h => absurd h List.not_mem_nil
theorem mo_X17_matchesAnew : MOK WB md_X17_matchesAnew := ⟨by decide, (wb_10 193 rfl rfl), (wb_1 13 rfl rfl), by decide +kernel, ⟨by decide +kernel, by decide +kernel⟩, rfl, (fun h => by cases h), by decide, ho_X17_matchesAnew⟩
theorem tb_X17_match : TB[123]? = some (md_X17_match, tl_X17_match) := rfl
theorem pr_X17_match : (parseMethodDescriptor (mY md_X17_match).desc).map (fun d => d.parameters.length) = some (mN md_X17_match - 1) := by decide +kernel
theorem in_X17_match : Jvm.Cond.instanceMethod (mY md_X17_match) ∈ WB := (wb_10 225 rfl rfl)
theorem se_X17_match : Jvm.Cond.selects (mY md_X17_match).cls (mY md_X17_match) (mY md_X17_match) ∈ WB := (wb_10 226 rfl rfl)
theorem ho_X17_match : HOK WB md_X17_match := fun _ h => absurd h List.not_mem_nil
theorem mo_X17_match : MOK WB md_X17_match := ⟨by decide, (wb_10 227 rfl rfl), (wb_1 13 rfl rfl), by decide +kernel, ⟨by decide +kernel, by decide +kernel⟩, rfl, (fun h => by cases h), by decide, ho_X17_match⟩
theorem tb_X10_pairs : TB[124]? = some (md_X10_pairs, tl_X10_pairs) := rfl
theorem pr_X10_pairs : (parseMethodDescriptor (mY md_X10_pairs).desc).map (fun d => d.parameters.length) = some (mN md_X10_pairs - 1) := by decide +kernel
theorem in_X10_pairs : Jvm.Cond.instanceMethod (mY md_X10_pairs) ∈ WB := (wb_3 125 rfl rfl)
theorem se_X10_pairs : Jvm.Cond.selects (mY md_X10_pairs).cls (mY md_X10_pairs) (mY md_X10_pairs) ∈ WB := (wb_3 126 rfl rfl)
theorem ho_X10_pairs : HOK WB md_X10_pairs := fun _ h => absurd h List.not_mem_nil
theorem mo_X10_pairs : MOK WB md_X10_pairs := ⟨by decide, (wb_3 127 rfl rfl), (wb_1 1 rfl rfl), by decide +kernel, ⟨by decide +kernel, by decide +kernel⟩, rfl, (fun h => by cases h), by decide, ho_X10_pairs⟩
theorem tb_X17_adds : TB[125]? = some (md_X17_adds, tl_X17_adds) := rfl
theorem pr_X17_adds : (parseMethodDescriptor (mY md_X17_adds).desc).map (fun d => d.parameters.length) = some (mN md_X17_adds - 1) := by decide +kernel
theorem in_X17_adds : Jvm.Cond.instanceMethod (mY md_X17_adds) ∈ WB := (wb_9 171 rfl rfl)
theorem se_X17_adds : Jvm.Cond.selects (mY md_X17_adds).cls (mY md_X17_adds) (mY md_X17_adds) ∈ WB := (wb_0 82 rfl rfl)
theorem ho_X17_adds : HOK WB md_X17_adds := fun _ h => absurd h List.not_mem_nil
theorem mo_X17_adds : MOK WB md_X17_adds := ⟨by decide, (wb_9 172 rfl rfl), (wb_1 13 rfl rfl), by decide +kernel, ⟨by decide +kernel, by decide +kernel⟩, rfl, (fun h => by cases h), by decide, ho_X17_adds⟩
theorem tb_L_sort : TB[126]? = some (md_L_sort, tl_L_sort) := rfl
theorem pr_L_sort : (parseMethodDescriptor (mY md_L_sort).desc).map (fun d => d.parameters.length) = some (mN md_L_sort) := by decide +kernel
theorem st_L_sort : Jvm.Cond.static (mY md_L_sort) ∈ WB := (wb_4 181 rfl rfl)
theorem ho_L_sort : HOK WB md_L_sort := List.forall_mem_cons.mpr ⟨fun _ => ⟨by decide, (wb_4 183 rfl rfl)⟩, fun _ h => absurd h List.not_mem_nil⟩
theorem mo_L_sort : MOK WB md_L_sort := ⟨by decide, (wb_4 182 rfl rfl), (wb_1 0 rfl rfl), by decide +kernel, ⟨by decide +kernel, by decide +kernel⟩, rfl, (fun h => by cases h), by decide, ho_L_sort⟩
theorem tb_L_match : TB[127]? = some (md_L_match, tl_L_match) := rfl
theorem pr_L_match : (parseMethodDescriptor (mY md_L_match).desc).map (fun d => d.parameters.length) = some (mN md_L_match) := by decide +kernel
theorem st_L_match : Jvm.Cond.static (mY md_L_match) ∈ WB := (wb_5 217 rfl rfl)
theorem ho_L_match : HOK WB md_L_match := List.forall_mem_cons.mpr ⟨fun _ => ⟨by decide, (wb_5 20 rfl rfl)⟩, List.forall_mem_cons.mpr ⟨fun _ => ⟨by decide, (wb_4 183 rfl rfl)⟩, fun _ h => absurd h List.not_mem_nil⟩⟩
theorem mo_L_match : MOK WB md_L_match := ⟨by decide, (wb_5 218 rfl rfl), (wb_1 0 rfl rfl), by decide +kernel, ⟨by decide +kernel, by decide +kernel⟩, rfl, (fun h => by cases h), by decide, ho_L_match⟩
theorem tb_L_idle : TB[128]? = some (md_L_idle, tl_L_idle) := rfl
theorem pr_L_idle : (parseMethodDescriptor (mY md_L_idle).desc).map (fun d => d.parameters.length) = some (mN md_L_idle) := by decide +kernel
theorem st_L_idle : Jvm.Cond.static (mY md_L_idle) ∈ WB := (wb_6 138 rfl rfl)
theorem ho_L_idle : HOK WB md_L_idle := List.forall_mem_cons.mpr ⟨fun _ => ⟨by decide, (wb_4 183 rfl rfl)⟩, fun _ h => absurd h List.not_mem_nil⟩
theorem mo_L_idle : MOK WB md_L_idle := ⟨by decide, (wb_6 139 rfl rfl), (wb_1 0 rfl rfl), by decide +kernel, ⟨by decide +kernel, by decide +kernel⟩, rfl, (fun h => by cases h), by decide, ho_L_idle⟩
theorem tb_X10_drop : TB[129]? = some (md_X10_drop, tl_X10_drop) := rfl
theorem pr_X10_drop : (parseMethodDescriptor (mY md_X10_drop).desc).map (fun d => d.parameters.length) = some (mN md_X10_drop - 1) := by decide +kernel
theorem in_X10_drop : Jvm.Cond.instanceMethod (mY md_X10_drop) ∈ WB := (wb_3 113 rfl rfl)
theorem se_X10_drop : Jvm.Cond.selects (mY md_X10_drop).cls (mY md_X10_drop) (mY md_X10_drop) ∈ WB := (wb_3 114 rfl rfl)
theorem ho_X10_drop : HOK WB md_X10_drop := fun _ h => absurd h List.not_mem_nil
theorem mo_X10_drop : MOK WB md_X10_drop := ⟨by decide, (wb_3 115 rfl rfl), (wb_1 1 rfl rfl), by decide +kernel, ⟨by decide +kernel, by decide +kernel⟩, rfl, (fun h => by cases h), by decide, ho_X10_drop⟩
theorem tb_L_code : TB[130]? = some (md_L_code, tl_L_code) := rfl
theorem pr_L_code : (parseMethodDescriptor (mY md_L_code).desc).map (fun d => d.parameters.length) = some (mN md_L_code) := by decide +kernel
theorem st_L_code : Jvm.Cond.static (mY md_L_code) ∈ WB := (wb_5 176 rfl rfl)
theorem ho_L_code : HOK WB md_L_code := List.forall_mem_cons.mpr ⟨fun _ => ⟨by decide, (wb_5 20 rfl rfl)⟩, List.forall_mem_cons.mpr ⟨fun _ => ⟨by decide, (wb_4 183 rfl rfl)⟩, fun _ h => absurd h List.not_mem_nil⟩⟩
theorem mo_L_code : MOK WB md_L_code := ⟨by decide, (wb_5 177 rfl rfl), (wb_1 0 rfl rfl), by decide +kernel, ⟨by decide +kernel, by decide +kernel⟩, rfl, (fun h => by cases h), by decide, ho_L_code⟩
theorem tb_L_finds : TB[131]? = some (md_L_finds, tl_L_finds) := rfl
theorem pr_L_finds : (parseMethodDescriptor (mY md_L_finds).desc).map (fun d => d.parameters.length) = some (mN md_L_finds) := by decide +kernel
theorem st_L_finds : Jvm.Cond.static (mY md_L_finds) ∈ WB := (wb_6 91 rfl rfl)
theorem ho_L_finds : HOK WB md_L_finds := List.forall_mem_cons.mpr ⟨fun _ => ⟨by decide, (wb_5 20 rfl rfl)⟩, List.forall_mem_cons.mpr ⟨fun _ => ⟨by decide, (wb_4 183 rfl rfl)⟩, fun _ h => absurd h List.not_mem_nil⟩⟩
theorem mo_L_finds : MOK WB md_L_finds := ⟨by decide, (wb_6 92 rfl rfl), (wb_1 0 rfl rfl), by decide +kernel, ⟨by decide +kernel, by decide +kernel⟩, rfl, (fun h => by cases h), by decide, ho_L_finds⟩
theorem tb_X17_pairs : TB[132]? = some (md_X17_pairs, tl_X17_pairs) := rfl
theorem pr_X17_pairs : (parseMethodDescriptor (mY md_X17_pairs).desc).map (fun d => d.parameters.length) = some (mN md_X17_pairs - 1) := by decide +kernel
theorem in_X17_pairs : Jvm.Cond.instanceMethod (mY md_X17_pairs) ∈ WB := (wb_9 206 rfl rfl)
theorem se_X17_pairs : Jvm.Cond.selects (mY md_X17_pairs).cls (mY md_X17_pairs) (mY md_X17_pairs) ∈ WB := (wb_9 207 rfl rfl)
theorem ho_X17_pairs : HOK WB md_X17_pairs := fun _ h => absurd h List.not_mem_nil
theorem mo_X17_pairs : MOK WB md_X17_pairs := ⟨by decide, (wb_9 208 rfl rfl), (wb_1 13 rfl rfl), by decide +kernel, ⟨by decide +kernel, by decide +kernel⟩, rfl, (fun h => by cases h), by decide, ho_X17_pairs⟩
theorem tb_X17_equations : TB[133]? = some (md_X17_equations, tl_X17_equations) := rfl
theorem pr_X17_equations : (parseMethodDescriptor (mY md_X17_equations).desc).map (fun d => d.parameters.length) = some (mN md_X17_equations - 1) := by decide +kernel
theorem in_X17_equations : Jvm.Cond.instanceMethod (mY md_X17_equations) ∈ WB := (wb_10 233 rfl rfl)
theorem se_X17_equations : Jvm.Cond.selects (mY md_X17_equations).cls (mY md_X17_equations) (mY md_X17_equations) ∈ WB := (wb_10 234 rfl rfl)
theorem ho_X17_equations : HOK WB md_X17_equations := fun _ h => absurd h List.not_mem_nil
theorem mo_X17_equations : MOK WB md_X17_equations := ⟨by decide, (wb_10 235 rfl rfl), (wb_1 13 rfl rfl), by decide +kernel, ⟨by decide +kernel, by decide +kernel⟩, rfl, (fun h => by cases h), by decide, ho_X17_equations⟩
theorem tb_L_sortOf : TB[134]? = some (md_L_sortOf, tl_L_sortOf) := rfl
theorem pr_L_sortOf : (parseMethodDescriptor (mY md_L_sortOf).desc).map (fun d => d.parameters.length) = some (mN md_L_sortOf) := by decide +kernel
theorem st_L_sortOf : Jvm.Cond.static (mY md_L_sortOf) ∈ WB := (wb_5 163 rfl rfl)
theorem ho_L_sortOf : HOK WB md_L_sortOf := List.forall_mem_cons.mpr ⟨fun _ => ⟨by decide, (wb_4 183 rfl rfl)⟩, fun _ h => absurd h List.not_mem_nil⟩
theorem mo_L_sortOf : MOK WB md_L_sortOf := ⟨by decide, (wb_5 164 rfl rfl), (wb_1 0 rfl rfl), by decide +kernel, ⟨by decide +kernel, by decide +kernel⟩, rfl, (fun h => by cases h), by decide, ho_L_sortOf⟩
theorem tb_L_matches : TB[135]? = some (md_L_matches, tl_L_matches) := rfl
theorem pr_L_matches : (parseMethodDescriptor (mY md_L_matches).desc).map (fun d => d.parameters.length) = some (mN md_L_matches) := by decide +kernel
theorem st_L_matches : Jvm.Cond.static (mY md_L_matches) ∈ WB := (wb_5 186 rfl rfl)
theorem ho_L_matches : HOK WB md_L_matches := List.forall_mem_cons.mpr ⟨fun _ => ⟨by decide, (wb_4 183 rfl rfl)⟩, fun _ h => absurd h List.not_mem_nil⟩
theorem mo_L_matches : MOK WB md_L_matches := ⟨by decide, (wb_5 187 rfl rfl), (wb_1 0 rfl rfl), by decide +kernel, ⟨by decide +kernel, by decide +kernel⟩, rfl, (fun h => by cases h), by decide, ho_L_matches⟩
theorem tb_L_matchesAnew : TB[136]? = some (md_L_matchesAnew, tl_L_matchesAnew) := rfl
theorem pr_L_matchesAnew : (parseMethodDescriptor (mY md_L_matchesAnew).desc).map (fun d => d.parameters.length) = some (mN md_L_matchesAnew) := by decide +kernel
theorem st_L_matchesAnew : Jvm.Cond.static (mY md_L_matchesAnew) ∈ WB := (wb_5 200 rfl rfl)
theorem ho_L_matchesAnew : HOK WB md_L_matchesAnew := List.forall_mem_cons.mpr ⟨fun _ => ⟨by decide, (wb_4 183 rfl rfl)⟩, fun _ h => absurd h List.not_mem_nil⟩
theorem mo_L_matchesAnew : MOK WB md_L_matchesAnew := ⟨by decide, (wb_5 201 rfl rfl), (wb_1 0 rfl rfl), by decide +kernel, ⟨by decide +kernel, by decide +kernel⟩, rfl, (fun h => by cases h), by decide, ho_L_matchesAnew⟩
theorem tb_L_reduce : TB[137]? = some (md_L_reduce, tl_L_reduce) := rfl
theorem pr_L_reduce : (parseMethodDescriptor (mY md_L_reduce).desc).map (fun d => d.parameters.length) = some (mN md_L_reduce) := by decide +kernel
theorem st_L_reduce : Jvm.Cond.static (mY md_L_reduce) ∈ WB := (wb_6 1 rfl rfl)
theorem ho_L_reduce : HOK WB md_L_reduce := List.forall_mem_cons.mpr ⟨fun _ => ⟨by decide, (wb_4 183 rfl rfl)⟩, fun _ h => absurd h List.not_mem_nil⟩
theorem mo_L_reduce : MOK WB md_L_reduce := ⟨by decide, (wb_6 2 rfl rfl), (wb_1 0 rfl rfl), by decide +kernel, ⟨by decide +kernel, by decide +kernel⟩, rfl, (fun h => by cases h), by decide, ho_L_reduce⟩
theorem tb_L_fitting : TB[138]? = some (md_L_fitting, tl_L_fitting) := rfl
theorem pr_L_fitting : (parseMethodDescriptor (mY md_L_fitting).desc).map (fun d => d.parameters.length) = some (mN md_L_fitting) := by decide +kernel
theorem st_L_fitting : Jvm.Cond.static (mY md_L_fitting) ∈ WB := (wb_6 9 rfl rfl)
theorem ho_L_fitting : HOK WB md_L_fitting := List.forall_mem_cons.mpr ⟨fun _ => ⟨by decide, (wb_4 183 rfl rfl)⟩, fun _ h => absurd h List.not_mem_nil⟩
theorem mo_L_fitting : MOK WB md_L_fitting := ⟨by decide, (wb_6 10 rfl rfl), (wb_1 0 rfl rfl), by decide +kernel, ⟨by decide +kernel, by decide +kernel⟩, rfl, (fun h => by cases h), by decide, ho_L_fitting⟩
theorem tb_L_matching : TB[139]? = some (md_L_matching, tl_L_matching) := rfl
theorem pr_L_matching : (parseMethodDescriptor (mY md_L_matching).desc).map (fun d => d.parameters.length) = some (mN md_L_matching) := by decide +kernel
theorem st_L_matching : Jvm.Cond.static (mY md_L_matching) ∈ WB := (wb_6 17 rfl rfl)
theorem ho_L_matching : HOK WB md_L_matching := List.forall_mem_cons.mpr ⟨fun _ => ⟨by decide, (wb_4 183 rfl rfl)⟩, fun _ h => absurd h List.not_mem_nil⟩
theorem mo_L_matching : MOK WB md_L_matching := ⟨by decide, (wb_6 18 rfl rfl), (wb_1 0 rfl rfl), by decide +kernel, ⟨by decide +kernel, by decide +kernel⟩, rfl, (fun h => by cases h), by decide, ho_L_matching⟩
theorem tb_L_search : TB[140]? = some (md_L_search, tl_L_search) := rfl
theorem pr_L_search : (parseMethodDescriptor (mY md_L_search).desc).map (fun d => d.parameters.length) = some (mN md_L_search) := by decide +kernel
theorem st_L_search : Jvm.Cond.static (mY md_L_search) ∈ WB := (wb_6 24 rfl rfl)
theorem ho_L_search : HOK WB md_L_search := List.forall_mem_cons.mpr ⟨fun _ => ⟨by decide, (wb_4 183 rfl rfl)⟩, fun _ h => absurd h List.not_mem_nil⟩
theorem mo_L_search : MOK WB md_L_search := ⟨by decide, (wb_6 25 rfl rfl), (wb_1 0 rfl rfl), by decide +kernel, ⟨by decide +kernel, by decide +kernel⟩, rfl, (fun h => by cases h), by decide, ho_L_search⟩
theorem tb_L_test : TB[141]? = some (md_L_test, tl_L_test) := rfl
theorem pr_L_test : (parseMethodDescriptor (mY md_L_test).desc).map (fun d => d.parameters.length) = some (mN md_L_test) := by decide +kernel
theorem st_L_test : Jvm.Cond.static (mY md_L_test) ∈ WB := (wb_6 145 rfl rfl)
theorem ho_L_test : HOK WB md_L_test := List.forall_mem_cons.mpr ⟨fun _ => ⟨by decide, (wb_4 183 rfl rfl)⟩, fun _ h => absurd h List.not_mem_nil⟩
theorem mo_L_test : MOK WB md_L_test := ⟨by decide, (wb_6 146 rfl rfl), (wb_1 0 rfl rfl), by decide +kernel, ⟨by decide +kernel, by decide +kernel⟩, rfl, (fun h => by cases h), by decide, ho_L_test⟩
theorem tb_L_many : TB[142]? = some (md_L_many, tl_L_many) := rfl
theorem pr_L_many : (parseMethodDescriptor (mY md_L_many).desc).map (fun d => d.parameters.length) = some (mN md_L_many) := by decide +kernel
theorem st_L_many : Jvm.Cond.static (mY md_L_many) ∈ WB := (wb_6 181 rfl rfl)
theorem ho_L_many : HOK WB md_L_many := List.forall_mem_cons.mpr ⟨fun _ => ⟨by decide, (wb_4 183 rfl rfl)⟩, fun _ h => absurd h List.not_mem_nil⟩
theorem mo_L_many : MOK WB md_L_many := ⟨by decide, (wb_6 182 rfl rfl), (wb_1 0 rfl rfl), by decide +kernel, ⟨by decide +kernel, by decide +kernel⟩, rfl, (fun h => by cases h), by decide, ho_L_many⟩
theorem tb_L_run : TB[143]? = some (md_L_run, tl_L_run) := rfl
theorem pr_L_run : (parseMethodDescriptor (mY md_L_run).desc).map (fun d => d.parameters.length) = some (mN md_L_run) := by decide +kernel
theorem st_L_run : Jvm.Cond.static (mY md_L_run) ∈ WB := (wb_6 194 rfl rfl)
theorem ho_L_run : HOK WB md_L_run := List.forall_mem_cons.mpr ⟨fun _ => ⟨by decide, (wb_4 183 rfl rfl)⟩, fun _ h => absurd h List.not_mem_nil⟩
theorem mo_L_run : MOK WB md_L_run := ⟨by decide, (wb_6 195 rfl rfl), (wb_1 0 rfl rfl), by decide +kernel, ⟨by decide +kernel, by decide +kernel⟩, rfl, (fun h => by cases h), by decide, ho_L_run⟩
theorem tb_X10_many : TB[144]? = some (md_X10_many, tl_X10_many) := rfl
theorem pr_X10_many : (parseMethodDescriptor (mY md_X10_many).desc).map (fun d => d.parameters.length) = some (mN md_X10_many - 1) := by decide +kernel
theorem in_X10_many : Jvm.Cond.instanceMethod (mY md_X10_many) ∈ WB := (wb_6 184 rfl rfl)
theorem se_X10_many : Jvm.Cond.selects (mY md_X10_many).cls (mY md_X10_many) (mY md_X10_many) ∈ WB := (wb_6 185 rfl rfl)
theorem ho_X10_many : HOK WB md_X10_many := fun _ h => absurd h List.not_mem_nil
theorem mo_X10_many : MOK WB md_X10_many := ⟨by decide, (wb_6 186 rfl rfl), (wb_1 1 rfl rfl), by decide +kernel, ⟨by decide +kernel, by decide +kernel⟩, rfl, (fun h => by cases h), by decide, ho_X10_many⟩
theorem tb_X10_run : TB[145]? = some (md_X10_run, tl_X10_run) := rfl
theorem pr_X10_run : (parseMethodDescriptor (mY md_X10_run).desc).map (fun d => d.parameters.length) = some (mN md_X10_run - 1) := by decide +kernel
theorem in_X10_run : Jvm.Cond.instanceMethod (mY md_X10_run) ∈ WB := (wb_6 197 rfl rfl)
theorem se_X10_run : Jvm.Cond.selects (mY md_X10_run).cls (mY md_X10_run) (mY md_X10_run) ∈ WB := (wb_6 198 rfl rfl)
theorem ho_X10_run : HOK WB md_X10_run := fun _ h => absurd h List.not_mem_nil
theorem mo_X10_run : MOK WB md_X10_run := ⟨by decide, (wb_6 199 rfl rfl), (wb_1 1 rfl rfl), by decide +kernel, ⟨by decide +kernel, by decide +kernel⟩, rfl, (fun h => by cases h), by decide, ho_X10_run⟩
theorem tb_X17_isCut : TB[146]? = some (md_X17_isCut, tl_X17_isCut) := rfl
theorem pr_X17_isCut : (parseMethodDescriptor (mY md_X17_isCut).desc).map (fun d => d.parameters.length) = some (mN md_X17_isCut - 1) := by decide +kernel
theorem in_X17_isCut : Jvm.Cond.instanceMethod (mY md_X17_isCut) ∈ WB := (wb_9 97 rfl rfl)
theorem se_X17_isCut : Jvm.Cond.selects (mY md_X17_isCut).cls (mY md_X17_isCut) (mY md_X17_isCut) ∈ WB := (wb_9 98 rfl rfl)
theorem ho_X17_isCut : HOK WB md_X17_isCut := fun _ h => absurd h List.not_mem_nil
theorem mo_X17_isCut : MOK WB md_X17_isCut := ⟨by decide, (wb_9 99 rfl rfl), (wb_1 13 rfl rfl), by decide +kernel, ⟨by decide +kernel, by decide +kernel⟩, rfl, (fun h => by cases h), by decide, ho_X17_isCut⟩
theorem tb_X10_sortOf : TB[147]? = some (md_X10_sortOf, tl_X10_sortOf) := rfl
theorem pr_X10_sortOf : (parseMethodDescriptor (mY md_X10_sortOf).desc).map (fun d => d.parameters.length) = some (mN md_X10_sortOf - 1) := by decide +kernel
theorem in_X10_sortOf : Jvm.Cond.instanceMethod (mY md_X10_sortOf) ∈ WB := (wb_5 166 rfl rfl)
theorem se_X10_sortOf : Jvm.Cond.selects (mY md_X10_sortOf).cls (mY md_X10_sortOf) (mY md_X10_sortOf) ∈ WB := (wb_5 167 rfl rfl)
theorem ho_X10_sortOf : HOK WB md_X10_sortOf := fun _ h => absurd h List.not_mem_nil
theorem mo_X10_sortOf : MOK WB md_X10_sortOf := ⟨by decide, (wb_5 168 rfl rfl), (wb_1 1 rfl rfl), by decide +kernel, ⟨by decide +kernel, by decide +kernel⟩, rfl, (fun h => by cases h), by decide, ho_X10_sortOf⟩
theorem tb_X10_code : TB[148]? = some (md_X10_code, tl_X10_code) := rfl
theorem pr_X10_code : (parseMethodDescriptor (mY md_X10_code).desc).map (fun d => d.parameters.length) = some (mN md_X10_code - 1) := by decide +kernel
theorem in_X10_code : Jvm.Cond.instanceMethod (mY md_X10_code) ∈ WB := (wb_5 179 rfl rfl)
theorem se_X10_code : Jvm.Cond.selects (mY md_X10_code).cls (mY md_X10_code) (mY md_X10_code) ∈ WB := (wb_5 180 rfl rfl)
theorem ho_X10_code : HOK WB md_X10_code := fun _ h => absurd h List.not_mem_nil
theorem mo_X10_code : MOK WB md_X10_code := ⟨by decide, (wb_5 181 rfl rfl), (wb_1 1 rfl rfl), by decide +kernel, ⟨by decide +kernel, by decide +kernel⟩, rfl, (fun h => by cases h), by decide, ho_X10_code⟩
theorem tb_X10_matches : TB[149]? = some (md_X10_matches, tl_X10_matches) := rfl
theorem pr_X10_matches : (parseMethodDescriptor (mY md_X10_matches).desc).map (fun d => d.parameters.length) = some (mN md_X10_matches - 1) := by decide +kernel
theorem in_X10_matches : Jvm.Cond.instanceMethod (mY md_X10_matches) ∈ WB := (wb_5 189 rfl rfl)
theorem se_X10_matches : Jvm.Cond.selects (mY md_X10_matches).cls (mY md_X10_matches) (mY md_X10_matches) ∈ WB := (wb_5 190 rfl rfl)
theorem ho_X10_matches : HOK WB md_X10_matches := fun _ h => absurd h List.not_mem_nil
theorem mo_X10_matches : MOK WB md_X10_matches := ⟨by decide, (wb_5 191 rfl rfl), (wb_1 1 rfl rfl), by decide +kernel, ⟨by decide +kernel, by decide +kernel⟩, rfl, (fun h => by cases h), by decide, ho_X10_matches⟩
theorem tb_X10_matchesAnew : TB[150]? = some (md_X10_matchesAnew, tl_X10_matchesAnew) := rfl
theorem pr_X10_matchesAnew : (parseMethodDescriptor (mY md_X10_matchesAnew).desc).map (fun d => d.parameters.length) = some (mN md_X10_matchesAnew - 1) := by decide +kernel
theorem in_X10_matchesAnew : Jvm.Cond.instanceMethod (mY md_X10_matchesAnew) ∈ WB := (wb_5 203 rfl rfl)
theorem se_X10_matchesAnew : Jvm.Cond.selects (mY md_X10_matchesAnew).cls (mY md_X10_matchesAnew) (mY md_X10_matchesAnew) ∈ WB := (wb_5 204 rfl rfl)
theorem ho_X10_matchesAnew : HOK WB md_X10_matchesAnew := fun _ h => absurd h List.not_mem_nil
theorem mo_X10_matchesAnew : MOK WB md_X10_matchesAnew := ⟨by decide, (wb_5 205 rfl rfl), (wb_1 1 rfl rfl), by decide +kernel, ⟨by decide +kernel, by decide +kernel⟩, rfl, (fun h => by cases h), by decide, ho_X10_matchesAnew⟩
theorem tb_X10_match : TB[151]? = some (md_X10_match, tl_X10_match) := rfl
theorem pr_X10_match : (parseMethodDescriptor (mY md_X10_match).desc).map (fun d => d.parameters.length) = some (mN md_X10_match - 1) := by decide +kernel
theorem in_X10_match : Jvm.Cond.instanceMethod (mY md_X10_match) ∈ WB := (wb_5 220 rfl rfl)
theorem se_X10_match : Jvm.Cond.selects (mY md_X10_match).cls (mY md_X10_match) (mY md_X10_match) ∈ WB := (wb_5 221 rfl rfl)
theorem ho_X10_match : HOK WB md_X10_match := fun _ h => absurd h List.not_mem_nil
theorem mo_X10_match : MOK WB md_X10_match := ⟨by decide, (wb_5 222 rfl rfl), (wb_1 1 rfl rfl), by decide +kernel, ⟨by decide +kernel, by decide +kernel⟩, rfl, (fun h => by cases h), by decide, ho_X10_match⟩
theorem tb_X10_equations : TB[152]? = some (md_X10_equations, tl_X10_equations) := rfl
theorem pr_X10_equations : (parseMethodDescriptor (mY md_X10_equations).desc).map (fun d => d.parameters.length) = some (mN md_X10_equations - 1) := by decide +kernel
theorem in_X10_equations : Jvm.Cond.instanceMethod (mY md_X10_equations) ∈ WB := (wb_3 117 rfl rfl)
theorem se_X10_equations : Jvm.Cond.selects (mY md_X10_equations).cls (mY md_X10_equations) (mY md_X10_equations) ∈ WB := (wb_3 118 rfl rfl)
theorem ho_X10_equations : HOK WB md_X10_equations := fun _ h => absurd h List.not_mem_nil
theorem mo_X10_equations : MOK WB md_X10_equations := ⟨by decide, (wb_3 119 rfl rfl), (wb_1 1 rfl rfl), by decide +kernel, ⟨by decide +kernel, by decide +kernel⟩, rfl, (fun h => by cases h), by decide, ho_X10_equations⟩
theorem tb_X10_reduce : TB[153]? = some (md_X10_reduce, tl_X10_reduce) := rfl
theorem pr_X10_reduce : (parseMethodDescriptor (mY md_X10_reduce).desc).map (fun d => d.parameters.length) = some (mN md_X10_reduce - 1) := by decide +kernel
theorem in_X10_reduce : Jvm.Cond.instanceMethod (mY md_X10_reduce) ∈ WB := (wb_6 4 rfl rfl)
theorem se_X10_reduce : Jvm.Cond.selects (mY md_X10_reduce).cls (mY md_X10_reduce) (mY md_X10_reduce) ∈ WB := (wb_6 5 rfl rfl)
theorem ho_X10_reduce : HOK WB md_X10_reduce := fun _ h => absurd h List.not_mem_nil
theorem mo_X10_reduce : MOK WB md_X10_reduce := ⟨by decide, (wb_6 6 rfl rfl), (wb_1 1 rfl rfl), by decide +kernel, ⟨by decide +kernel, by decide +kernel⟩, rfl, (fun h => by cases h), by decide, ho_X10_reduce⟩
theorem tb_X10_fitting : TB[154]? = some (md_X10_fitting, tl_X10_fitting) := rfl
theorem pr_X10_fitting : (parseMethodDescriptor (mY md_X10_fitting).desc).map (fun d => d.parameters.length) = some (mN md_X10_fitting - 1) := by decide +kernel
theorem in_X10_fitting : Jvm.Cond.instanceMethod (mY md_X10_fitting) ∈ WB := (wb_6 12 rfl rfl)
theorem se_X10_fitting : Jvm.Cond.selects (mY md_X10_fitting).cls (mY md_X10_fitting) (mY md_X10_fitting) ∈ WB := (wb_6 13 rfl rfl)
theorem ho_X10_fitting : HOK WB md_X10_fitting := fun _ h => absurd h List.not_mem_nil
theorem mo_X10_fitting : MOK WB md_X10_fitting := ⟨by decide, (wb_6 14 rfl rfl), (wb_1 1 rfl rfl), by decide +kernel, ⟨by decide +kernel, by decide +kernel⟩, rfl, (fun h => by cases h), by decide, ho_X10_fitting⟩
theorem tb_X10_matching : TB[155]? = some (md_X10_matching, tl_X10_matching) := rfl
theorem pr_X10_matching : (parseMethodDescriptor (mY md_X10_matching).desc).map (fun d => d.parameters.length) = some (mN md_X10_matching - 1) := by decide +kernel
theorem in_X10_matching : Jvm.Cond.instanceMethod (mY md_X10_matching) ∈ WB := (wb_6 20 rfl rfl)
theorem se_X10_matching : Jvm.Cond.selects (mY md_X10_matching).cls (mY md_X10_matching) (mY md_X10_matching) ∈ WB := (wb_6 21 rfl rfl)
theorem ho_X10_matching : HOK WB md_X10_matching := fun _ h => absurd h List.not_mem_nil
theorem mo_X10_matching : MOK WB md_X10_matching := ⟨by decide, (wb_6 22 rfl rfl), (wb_1 1 rfl rfl), by decide +kernel, ⟨by decide +kernel, by decide +kernel⟩, rfl, (fun h => by cases h), by decide, ho_X10_matching⟩
theorem tb_X10_search : TB[156]? = some (md_X10_search, tl_X10_search) := rfl
theorem pr_X10_search : (parseMethodDescriptor (mY md_X10_search).desc).map (fun d => d.parameters.length) = some (mN md_X10_search - 1) := by decide +kernel
theorem in_X10_search : Jvm.Cond.instanceMethod (mY md_X10_search) ∈ WB := (wb_6 27 rfl rfl)
theorem se_X10_search : Jvm.Cond.selects (mY md_X10_search).cls (mY md_X10_search) (mY md_X10_search) ∈ WB := (wb_6 28 rfl rfl)
theorem ho_X10_search : HOK WB md_X10_search := fun _ h => absurd h List.not_mem_nil
theorem mo_X10_search : MOK WB md_X10_search := ⟨by decide, (wb_6 29 rfl rfl), (wb_1 1 rfl rfl), by decide +kernel, ⟨by decide +kernel, by decide +kernel⟩, rfl, (fun h => by cases h), by decide, ho_X10_search⟩
theorem tb_X10_isCut : TB[157]? = some (md_X10_isCut, tl_X10_isCut) := rfl
theorem pr_X10_isCut : (parseMethodDescriptor (mY md_X10_isCut).desc).map (fun d => d.parameters.length) = some (mN md_X10_isCut - 1) := by decide +kernel
theorem in_X10_isCut : Jvm.Cond.instanceMethod (mY md_X10_isCut) ∈ WB := (wb_3 121 rfl rfl)
theorem se_X10_isCut : Jvm.Cond.selects (mY md_X10_isCut).cls (mY md_X10_isCut) (mY md_X10_isCut) ∈ WB := (wb_3 122 rfl rfl)
theorem ho_X10_isCut : HOK WB md_X10_isCut := fun _ h => absurd h List.not_mem_nil
theorem mo_X10_isCut : MOK WB md_X10_isCut := ⟨by decide, (wb_3 123 rfl rfl), (wb_1 1 rfl rfl), by decide +kernel, ⟨by decide +kernel, by decide +kernel⟩, rfl, (fun h => by cases h), by decide, ho_X10_isCut⟩
theorem tb_X10_finds : TB[158]? = some (md_X10_finds, tl_X10_finds) := rfl
theorem pr_X10_finds : (parseMethodDescriptor (mY md_X10_finds).desc).map (fun d => d.parameters.length) = some (mN md_X10_finds - 1) := by decide +kernel
theorem in_X10_finds : Jvm.Cond.instanceMethod (mY md_X10_finds) ∈ WB := (wb_6 94 rfl rfl)
theorem se_X10_finds : Jvm.Cond.selects (mY md_X10_finds).cls (mY md_X10_finds) (mY md_X10_finds) ∈ WB := (wb_6 95 rfl rfl)
theorem ho_X10_finds : HOK WB md_X10_finds := fun _ h => absurd h List.not_mem_nil
theorem mo_X10_finds : MOK WB md_X10_finds := ⟨by decide, (wb_6 96 rfl rfl), (wb_1 1 rfl rfl), by decide +kernel, ⟨by decide +kernel, by decide +kernel⟩, rfl, (fun h => by cases h), by decide, ho_X10_finds⟩
theorem tb_X10_test : TB[159]? = some (md_X10_test, tl_X10_test) := rfl
theorem pr_X10_test : (parseMethodDescriptor (mY md_X10_test).desc).map (fun d => d.parameters.length) = some (mN md_X10_test - 1) := by decide +kernel
theorem in_X10_test : Jvm.Cond.instanceMethod (mY md_X10_test) ∈ WB := (wb_6 148 rfl rfl)
theorem se_X10_test : Jvm.Cond.selects (mY md_X10_test).cls (mY md_X10_test) (mY md_X10_test) ∈ WB := (wb_6 149 rfl rfl)
theorem ho_X10_test : HOK WB md_X10_test := fun _ h => absurd h List.not_mem_nil
theorem mo_X10_test : MOK WB md_X10_test := ⟨by decide, (wb_6 150 rfl rfl), (wb_1 1 rfl rfl), by decide +kernel, ⟨by decide +kernel, by decide +kernel⟩, rfl, (fun h => by cases h), by decide, ho_X10_test⟩
