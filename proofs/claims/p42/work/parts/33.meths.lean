/-! rows of the tables, kind by kind -/
def plainI (i : Instr) : Bool :=
  match i with
  | .return_ | .areturn | .ldc _ | .ldc_w _ | .getfield _ | .putfield _ | .getstatic _ | .newarray _ | .anewarray _ | .new _ | .tableswitch _ _ _ _ | .invokespecial _ | .invokestatic _ | .invokevirtual _ | .invokeinterface _ _ => false
  | _ => true
section IO
variable {WB AD : List Jvm.Cond} {SR : List (String × Nat × String)} {FW : List (String × Nat × MethodName × String)} {TB : List MT} {md : MD} {pc x y z : Nat} {fk : List Nat}
theorem io_plain {ins : Instr} (hd : decode (mC md) pc = .ok (ins, ilen ins)) (h : plainI ins = true) : IOK WB AD SR FW TB md pc (ins, x, y, z, fk) := by
  cases ins <;> first | exact ⟨hd, trivial, trivial⟩ | cases (show false = true from h)
theorem io_ldc {idx : Nat} (hd : decode (mC md) pc = .ok (.ldc idx, 2)) (h : Jvm.Cond.constant (mO md) idx (nI x) ∈ WB) : IOK WB AD SR FW TB md pc (.ldc idx, x, y, z, fk) := ⟨hd, trivial, h⟩
theorem io_ldc_w {idx : Nat} (hd : decode (mC md) pc = .ok (.ldc_w idx, 3)) (h : Jvm.Cond.constant (mO md) idx (nI x) ∈ WB) : IOK WB AD SR FW TB md pc (.ldc_w idx, x, y, z, fk) := ⟨hd, trivial, h⟩
theorem io_void (hd : decode (mC md) pc = .ok (.return_, 1)) (h : mR md = none) : IOK WB AD SR FW TB md pc (.return_, x, y, z, fk) := ⟨hd, h, trivial⟩
theorem io_aret (hd : decode (mC md) pc = .ok (.areturn, 1)) (h : rtk (mR md) = true) : IOK WB AD SR FW TB md pc (.areturn, x, y, z, fk) := ⟨hd, h, trivial⟩
theorem io_get {idx : Nat} (hd : decode (mC md) pc = .ok (.getfield idx, 3)) (h : FOK WB (mO md) idx x y) : IOK WB AD SR FW TB md pc (.getfield idx, x, y, z, fk) := ⟨hd, h, trivial⟩
theorem io_put {idx : Nat} (hd : decode (mC md) pc = .ok (.putfield idx, 3)) (h : FOK WB (mO md) idx x y) (h2 : POK (mO md) (mI md) x y z) : IOK WB AD SR FW TB md pc (.putfield idx, x, y, z, fk) := ⟨hd, ⟨h, h2⟩, trivial⟩
theorem io_newa {aty : ArrayType} (hd : decode (mC md) pc = .ok (.newarray aty, 2)) (h : (x = 0 ∧ aty = .int) ∨ (x = 1 ∧ aty = .boolean) ∨ (x = 2 ∧ aty = .long)) (h2 : Jvm.Cond.arrayClass (newarray.typeOf aty) ∈ WB) : IOK WB AD SR FW TB md pc (.newarray aty, x, y, z, fk) := ⟨hd, ⟨h, h2⟩, trivial⟩
theorem io_new {idx : Nat} (hd : decode (mC md) pc = .ok (.new idx, 3)) (h : Nat.ble 100 x = false) (h2 : NOK WB (mO md) idx x fk) : IOK WB AD SR FW TB md pc (.new idx, x, y, z, fk) := by
  refine ⟨hd, ?_, trivial⟩
  show (match Nat.ble 100 x with
    | true => THK WB AD SR md pc (x - 100)
    | false => NOK WB (mO md) idx x fk)
  rw [h]
  exact h2
theorem io_thr {idx : Nat} (h : Nat.ble 100 x = true) (h2 : THK WB AD SR md pc (x - 100)) (hd : decode (mC md) pc = .ok (.new idx, 3)) : IOK WB AD SR FW TB md pc (.new idx, x, y, z, fk) := by
  refine ⟨hd, ?_, trivial⟩
  show (match Nat.ble 100 x with
    | true => THK WB AD SR md pc (x - 100)
    | false => NOK WB (mO md) idx x fk)
  rw [h]
  exact h2
theorem io_thx {idx : Nat} (ec : Nat) (hx : x = ec + 100) (h2 : THK WB AD SR md pc ec) (hd : decode (mC md) pc = .ok (.new idx, 3)) : IOK WB AD SR FW TB md pc (.new idx, x, y, z, fk) := by
  subst hx
  have e : ec + 100 - 100 = ec := by omega
  exact io_thr (Nat.ble_eq_true_of_le (by omega)) (by rw [e]; exact h2) hd
theorem thk_mk (own : String) (ho : mO md = own) (idx is ic ec : Nat) (text : String) (w : Bool) (h1 : (own, is, text) ∈ SR) (h2 : ec < 3) (h3 : decode (mC md) pc = .ok (.new idx, 3)) (h4 : decode (mC md) (pc + 3) = .ok (.dup, 1))
    (h5 : match w with
      | false => decode (mC md) (pc + 4) = .ok (.ldc is, 2) ∧ decode (mC md) (pc + 6) = .ok (.invokespecial ic, 3) ∧ decode (mC md) (pc + 9) = .ok (.athrow, 1)
      | true => decode (mC md) (pc + 4) = .ok (.ldc_w is, 3) ∧ decode (mC md) (pc + 7) = .ok (.invokespecial ic, 3) ∧ decode (mC md) (pc + 10) = .ok (.athrow, 1))
    (h6 : Jvm.Cond.classLink own idx (ename ec) ∈ WB) (h7 : Jvm.Cond.initialized (ename ec) ∈ WB) (h8 : ∀ v ∈ vx_atS own ic (ename ec) XN, v ∈ WB ∨ v ∈ AD) (h9 : mH md = []) : THK WB AD SR md pc ec := by
  subst ho
  exact ⟨idx, is, ic, text, w, h1, h2, h3, h4, h5, h6, h7, h8, h9⟩
theorem io_tsw {d lo hi : Int} {offs : Array Int} (hd : ∃ n, decode (mC md) pc = .ok (.tableswitch d lo hi offs, n)) : IOK WB AD SR FW TB md pc (.tableswitch d lo hi offs, x, y, z, fk) := ⟨hd, trivial, trivial⟩
theorem io_obj {idx : Nat} (hd : decode (mC md) pc = .ok (.invokespecial idx, 3)) (h1 : Jvm.Cond.methodLink (mO md) idx objectInit ∈ WB) (h2 : Jvm.Cond.instanceMethod objectInit ∈ WB) (h3 : Jvm.Cond.code objectInit ⟨#[0xb1]⟩ 1 none ∈ WB) : IOK WB AD SR FW TB md pc (.invokespecial idx, 1000, y, z, fk) := ⟨hd, trivial, Or.inl ⟨rfl, h1, h2, h3⟩⟩
theorem io_copy {idx : Nat} (hd : decode (mC md) pc = .ok (.invokestatic idx, 3)) (h1 : Jvm.Cond.methodLink (mO md) idx arraycopyName ∈ WB) (h2 : Jvm.Cond.native arraycopyName ∈ WB) (h3 : Jvm.Cond.static arraycopyName ∈ WB) (h4 : Jvm.Cond.initialized "java/lang/System" ∈ WB) : IOK WB AD SR FW TB md pc (.invokestatic idx, 1000, y, z, fk) := ⟨hd, trivial, Or.inl ⟨rfl, h1, h2, h3, h4⟩⟩
theorem io_spec {idx : Nat} {mt : MT} (hd : decode (mC md) pc = .ok (.invokespecial idx, 3)) (ht : TB[x]? = some mt) (h1 : Jvm.Cond.methodLink (mO md) idx (mY mt.1) ∈ WB) (h2 : Jvm.Cond.instanceMethod (mY mt.1) ∈ WB) (h3 : (mY mt.1).name = "<init>") (h4 : mR mt.1 = none) (h5 : mH mt.1 = []) (h6 : (parseMethodDescriptor (mY mt.1).desc).map (fun d => d.parameters.length) = some (mN mt.1 - 1)) (h7 : 0 < mN mt.1) : IOK WB AD SR FW TB md pc (.invokespecial idx, x, y, z, fk) := ⟨hd, trivial, Or.inr (Or.inr ⟨mt, ht, h1, h2, h3, h4, h5, h6, h7⟩)⟩
theorem io_stat {idx : Nat} {mt : MT} (hd : decode (mC md) pc = .ok (.invokestatic idx, 3)) (ht : TB[x]? = some mt) (h1 : Jvm.Cond.methodLink (mO md) idx (mY mt.1) ∈ WB ∨ (mH mt.1 = [] ∧ mH md = [] ∧ ∃ host, (mO md, idx, mY mt.1, host) ∈ FW)) (h2 : Jvm.Cond.static (mY mt.1) ∈ WB) (h6 : (parseMethodDescriptor (mY mt.1).desc).map (fun d => d.parameters.length) = some (mN mt.1)) : IOK WB AD SR FW TB md pc (.invokestatic idx, x, y, z, fk) := ⟨hd, trivial, Or.inr (Or.inr (Or.inr ⟨mt, ht, h1, h2, h6⟩))⟩
theorem io_virt {idx : Nat} {mt : MT} (hd : decode (mC md) pc = .ok (.invokevirtual idx, 3)) (ht : TB[x]? = some mt) (h1 : Jvm.Cond.methodLink (mO md) idx (mY mt.1) ∈ WB ∨ (mH mt.1 = [] ∧ mH md = [] ∧ ∃ host, (mO md, idx, mY mt.1, host) ∈ FW)) (h2 : Jvm.Cond.instanceMethod (mY mt.1) ∈ WB) (h3 : Jvm.Cond.selects (mY mt.1).cls (mY mt.1) (mY mt.1) ∈ WB) (h4 : ∃ q, vwCl[y]? = some q ∧ q.1 = (mY mt.1).cls) (h6 : (parseMethodDescriptor (mY mt.1).desc).map (fun d => d.parameters.length) = some (mN mt.1 - 1)) (h7 : 0 < mN mt.1) : IOK WB AD SR FW TB md pc (.invokevirtual idx, x, y, z, fk) := ⟨hd, trivial, Or.inr ⟨mt, ht, h1, h2, h3, h4, h6, h7⟩⟩
end IO
theorem nok_fk {fk : List Nat} {N : Nat} {ty : Nat → FieldType} (h : ((List.range N).all fun j => match fk[j]? with | some z => kindok z (ty j) | none => false) = true) : ∀ j, j < N → ∃ z, fk[j]? = some z ∧ kindok z (ty j) = true := by
  intro j hj
  have h2 := List.all_eq_true.mp h j (List.mem_range.mpr hj)
  cases e : fk[j]? with
  | none => simp [e] at h2
  | some z => simp [e] at h2; exact ⟨z, rfl, h2⟩
theorem at_of {L : List Jvm.Cond} (h : ∀ w ∈ L, w ∈ lw_tbl) (h2 : L.all (fun w => goodWord w || adk w) = true) : ∀ v ∈ L, v ∈ WB ∨ v ∈ AD := by
  intro v hv
  have h3 := List.all_eq_true.mp h2 v hv
  cases hg : goodWord v with
  | true => exact Or.inl (wb_of (h v hv) hg)
  | false => rw [hg] at h3; exact Or.inr (ad_of (h v hv) (by simpa using h3))
def RowsOK (mt : MT) (tf : List (Nat × Step)) : Prop := tf = mt.2.map (fun q => (q.1, stepOf NPf mt.1 q.2)) ∧ ∀ q ∈ mt.2, IOK WB AD SR FW TB mt.1 q.1 q.2
theorem rows_app {md : MD} {a b : List (Nat × IE)} {ta tb : List (Nat × Step)} (h1 : RowsOK (md, a) ta) (h2 : RowsOK (md, b) tb) : RowsOK (md, a ++ b) (ta ++ tb) := ⟨by rw [h1.1, h2.1]; exact (List.map_append).symm, List.forall_mem_append.mpr ⟨h1.2, h2.2⟩⟩
theorem no_RL_11 : NOK WB RL 11 10 [2, 2, 2, 2, 2, 2, 2, 2, 0, 0] := ⟨RX10, TX10, 10, tyX10, rfl, uw_10, tyX10_ok, (wb_1 21 rfl rfl), (wb_1 22 rfl rfl), (wb_1 1 rfl rfl), rfl, nok_fk rfl⟩
theorem fo_RX8_9 : FOK WB RX8 9 8 1 := ⟨RX8, TX8, 11, "RuleForge$Terms", rfl, uw_8, by decide, (wb_1 99 rfl rfl), Or.inl rfl⟩
theorem fo_RX8_37 : FOK WB RX8 37 8 0 := ⟨RX8, TX8, 11, "RuleForge$Terms", rfl, uw_8, by decide, (wb_1 96 rfl rfl), Or.inl rfl⟩
theorem fo_RX8_90 : FOK WB RX8 90 7 5 := ⟨RX7, TX7, 11, "RuleForge$Signature", rfl, uw_7, by decide, (wb_1 53 rfl rfl), Or.inl rfl⟩
theorem fo_RX8_97 : FOK WB RX8 97 7 6 := ⟨RX7, TX7, 11, "RuleForge$Signature", rfl, uw_7, by decide, (wb_1 57 rfl rfl), Or.inl rfl⟩
theorem fo_RX8_41 : FOK WB RX8 41 8 4 := ⟨RX8, TX8, 11, "RuleForge$Terms", rfl, uw_8, by decide, (wb_1 110 rfl rfl), Or.inl rfl⟩
theorem po_RX8_0_8_4_0 : POK RX8 false 8 4 0 := ⟨RX8, TX8, 11, tyX8, rfl, tyX8_ok, nmX8, rfl, Or.inl rfl⟩
theorem fo_RX8_19 : FOK WB RX8 19 8 3 := ⟨RX8, TX8, 11, "RuleForge$Terms", rfl, uw_8, by decide, (wb_1 109 rfl rfl), Or.inl rfl⟩
theorem fo_RX8_22 : FOK WB RX8 22 8 5 := ⟨RX8, TX8, 11, "RuleForge$Terms", rfl, uw_8, by decide, (wb_1 112 rfl rfl), Or.inl rfl⟩
theorem fo_RX8_25 : FOK WB RX8 25 8 6 := ⟨RX8, TX8, 11, "RuleForge$Terms", rfl, uw_8, by decide, (wb_1 113 rfl rfl), Or.inl rfl⟩
theorem fo_RX7_27 : FOK WB RX7 27 7 7 := ⟨RX7, TX7, 11, "RuleForge$Signature", rfl, uw_7, by decide, (wb_1 58 rfl rfl), Or.inl rfl⟩
theorem fo_RX7_30 : FOK WB RX7 30 7 8 := ⟨RX7, TX7, 11, "RuleForge$Signature", rfl, uw_7, by decide, (wb_1 60 rfl rfl), Or.inl rfl⟩
theorem fo_RX10_12 : FOK WB RX10 12 10 0 := ⟨RX10, TX10, 10, "RuleForge", rfl, uw_10, by decide, (wb_3 3 rfl rfl), Or.inl rfl⟩
theorem fo_RX10_135 : FOK WB RX10 135 7 4 := ⟨RX7, TX7, 11, "RuleForge$Signature", rfl, uw_7, by decide, (wb_1 48 rfl rfl), Or.inl rfl⟩
theorem fo_RX10_151 : FOK WB RX10 151 7 7 := ⟨RX7, TX7, 11, "RuleForge$Signature", rfl, uw_7, by decide, (wb_1 59 rfl rfl), Or.inl rfl⟩
theorem fo_RX10_30 : FOK WB RX10 30 10 2 := ⟨RX10, TX10, 10, "RuleForge", rfl, uw_10, by decide, (wb_3 5 rfl rfl), Or.inl rfl⟩
theorem fo_RX8_15 : FOK WB RX8 15 8 2 := ⟨RX8, TX8, 11, "RuleForge$Terms", rfl, uw_8, by decide, (wb_1 105 rfl rfl), Or.inl rfl⟩
theorem po_RX8_0_8_2_0 : POK RX8 false 8 2 0 := ⟨RX8, TX8, 11, tyX8, rfl, tyX8_ok, nmX8, rfl, Or.inl rfl⟩
theorem fo_RX10_140 : FOK WB RX10 140 7 1 := ⟨RX7, TX7, 11, "RuleForge$Signature", rfl, uw_7, by decide, (wb_1 41 rfl rfl), Or.inl rfl⟩
theorem fo_RX10_160 : FOK WB RX10 160 10 8 := ⟨RX10, TX10, 10, "RuleForge", rfl, uw_10, by decide, (wb_3 11 rfl rfl), Or.inl rfl⟩
theorem fo_RX10_21 : FOK WB RX10 21 10 1 := ⟨RX10, TX10, 10, "RuleForge", rfl, uw_10, by decide, (wb_3 4 rfl rfl), Or.inl rfl⟩
theorem po_RX10_0_10_8_0 : POK RX10 false 10 8 0 := ⟨RX10, TX10, 10, tyX10, rfl, tyX10_ok, nmX10, rfl, Or.inl rfl⟩
theorem fo_RX7_49 : FOK WB RX7 49 7 1 := ⟨RX7, TX7, 11, "RuleForge$Signature", rfl, uw_7, by decide, (wb_1 40 rfl rfl), Or.inl rfl⟩
theorem fo_RX7_18 : FOK WB RX7 18 7 4 := ⟨RX7, TX7, 11, "RuleForge$Signature", rfl, uw_7, by decide, (wb_1 47 rfl rfl), Or.inl rfl⟩
theorem fo_RX7_21 : FOK WB RX7 21 7 5 := ⟨RX7, TX7, 11, "RuleForge$Signature", rfl, uw_7, by decide, (wb_1 49 rfl rfl), Or.inl rfl⟩
theorem fo_RX7_24 : FOK WB RX7 24 7 6 := ⟨RX7, TX7, 11, "RuleForge$Signature", rfl, uw_7, by decide, (wb_1 54 rfl rfl), Or.inl rfl⟩
theorem fo_RX7_36 : FOK WB RX7 36 7 10 := ⟨RX7, TX7, 11, "RuleForge$Signature", rfl, uw_7, by decide, (wb_1 62 rfl rfl), Or.inl rfl⟩
theorem po_RX7_0_7_1_0 : POK RX7 false 7 1 0 := ⟨RX7, TX7, 11, tyX7, rfl, tyX7_ok, nmX7, rfl, Or.inl rfl⟩
theorem po_RX8_1_8_1_2 : POK RX8 true 8 1 2 := ⟨RX8, TX8, 11, tyX8, rfl, tyX8_ok, nmX8, rfl, Or.inr ⟨rfl, rfl, rfl⟩⟩
theorem po_RX8_1_8_2_0 : POK RX8 true 8 2 0 := ⟨RX8, TX8, 11, tyX8, rfl, tyX8_ok, nmX8, rfl, Or.inl rfl⟩
theorem po_RX8_1_8_3_2 : POK RX8 true 8 3 2 := ⟨RX8, TX8, 11, tyX8, rfl, tyX8_ok, nmX8, rfl, Or.inr ⟨rfl, rfl, rfl⟩⟩
theorem po_RX8_1_8_5_2 : POK RX8 true 8 5 2 := ⟨RX8, TX8, 11, tyX8, rfl, tyX8_ok, nmX8, rfl, Or.inr ⟨rfl, rfl, rfl⟩⟩
theorem po_RX8_1_8_6_2 : POK RX8 true 8 6 2 := ⟨RX8, TX8, 11, tyX8, rfl, tyX8_ok, nmX8, rfl, Or.inr ⟨rfl, rfl, rfl⟩⟩
theorem fo_RX8_28 : FOK WB RX8 28 8 7 := ⟨RX8, TX8, 11, "RuleForge$Terms", rfl, uw_8, by decide, (wb_1 114 rfl rfl), Or.inl rfl⟩
theorem po_RX8_1_8_7_2 : POK RX8 true 8 7 2 := ⟨RX8, TX8, 11, tyX8, rfl, tyX8_ok, nmX8, rfl, Or.inr ⟨rfl, rfl, rfl⟩⟩
theorem fo_RX8_31 : FOK WB RX8 31 8 8 := ⟨RX8, TX8, 11, "RuleForge$Terms", rfl, uw_8, by decide, (wb_1 117 rfl rfl), Or.inl rfl⟩
theorem po_RX8_1_8_8_0 : POK RX8 true 8 8 0 := ⟨RX8, TX8, 11, tyX8, rfl, tyX8_ok, nmX8, rfl, Or.inl rfl⟩
theorem fo_RX8_34 : FOK WB RX8 34 8 9 := ⟨RX8, TX8, 11, "RuleForge$Terms", rfl, uw_8, by decide, (wb_1 118 rfl rfl), Or.inl rfl⟩
theorem po_RX8_1_8_9_0 : POK RX8 true 8 9 0 := ⟨RX8, TX8, 11, tyX8, rfl, tyX8_ok, nmX8, rfl, Or.inl rfl⟩
theorem po_RX8_1_8_0_2 : POK RX8 true 8 0 2 := ⟨RX8, TX8, 11, tyX8, rfl, tyX8_ok, nmX8, rfl, Or.inr ⟨rfl, rfl, rfl⟩⟩
theorem fo_RX7_45 : FOK WB RX7 45 7 0 := ⟨RX7, TX7, 11, "RuleForge$Signature", rfl, uw_7, by decide, (wb_1 39 rfl rfl), Or.inl rfl⟩
theorem fo_RX10_262 : FOK WB RX10 262 2 2 := ⟨RX2, TX2, 5, "RuleForge$Laws", rfl, uw_2, by decide, (wb_1 154 rfl rfl), Or.inl rfl⟩
theorem fo_RX7_9 : FOK WB RX7 9 7 2 := ⟨RX7, TX7, 11, "RuleForge$Signature", rfl, uw_7, by decide, (wb_1 43 rfl rfl), Or.inl rfl⟩
theorem po_RX7_1_7_2_2 : POK RX7 true 7 2 2 := ⟨RX7, TX7, 11, tyX7, rfl, tyX7_ok, nmX7, rfl, Or.inr ⟨rfl, rfl, rfl⟩⟩
theorem fo_RX7_15 : FOK WB RX7 15 7 3 := ⟨RX7, TX7, 11, "RuleForge$Signature", rfl, uw_7, by decide, (wb_1 44 rfl rfl), Or.inl rfl⟩
theorem po_RX7_1_7_3_2 : POK RX7 true 7 3 2 := ⟨RX7, TX7, 11, tyX7, rfl, tyX7_ok, nmX7, rfl, Or.inr ⟨rfl, rfl, rfl⟩⟩
theorem po_RX7_1_7_4_2 : POK RX7 true 7 4 2 := ⟨RX7, TX7, 11, tyX7, rfl, tyX7_ok, nmX7, rfl, Or.inr ⟨rfl, rfl, rfl⟩⟩
theorem po_RX7_1_7_5_2 : POK RX7 true 7 5 2 := ⟨RX7, TX7, 11, tyX7, rfl, tyX7_ok, nmX7, rfl, Or.inr ⟨rfl, rfl, rfl⟩⟩
theorem po_RX7_1_7_6_2 : POK RX7 true 7 6 2 := ⟨RX7, TX7, 11, tyX7, rfl, tyX7_ok, nmX7, rfl, Or.inr ⟨rfl, rfl, rfl⟩⟩
theorem po_RX7_1_7_7_2 : POK RX7 true 7 7 2 := ⟨RX7, TX7, 11, tyX7, rfl, tyX7_ok, nmX7, rfl, Or.inr ⟨rfl, rfl, rfl⟩⟩
theorem po_RX7_1_7_8_2 : POK RX7 true 7 8 2 := ⟨RX7, TX7, 11, tyX7, rfl, tyX7_ok, nmX7, rfl, Or.inr ⟨rfl, rfl, rfl⟩⟩
theorem fo_RX7_33 : FOK WB RX7 33 7 9 := ⟨RX7, TX7, 11, "RuleForge$Signature", rfl, uw_7, by decide, (wb_1 61 rfl rfl), Or.inl rfl⟩
theorem po_RX7_1_7_9_2 : POK RX7 true 7 9 2 := ⟨RX7, TX7, 11, tyX7, rfl, tyX7_ok, nmX7, rfl, Or.inr ⟨rfl, rfl, rfl⟩⟩
theorem po_RX7_1_7_10_2 : POK RX7 true 7 10 2 := ⟨RX7, TX7, 11, tyX7, rfl, tyX7_ok, nmX7, rfl, Or.inr ⟨rfl, rfl, rfl⟩⟩
theorem fo_RX2_26 : FOK WB RX2 26 2 2 := ⟨RX2, TX2, 5, "RuleForge$Laws", rfl, uw_2, by decide, (wb_1 152 rfl rfl), Or.inl rfl⟩
theorem fo_RX2_30 : FOK WB RX2 30 2 3 := ⟨RX2, TX2, 5, "RuleForge$Laws", rfl, uw_2, by decide, (wb_1 155 rfl rfl), Or.inl rfl⟩
theorem po_RX8_0_8_8_0 : POK RX8 false 8 8 0 := ⟨RX8, TX8, 11, tyX8, rfl, tyX8_ok, nmX8, rfl, Or.inl rfl⟩
theorem fo_RX8_44 : FOK WB RX8 44 8 10 := ⟨RX8, TX8, 11, "RuleForge$Terms", rfl, uw_8, by decide, (wb_1 119 rfl rfl), Or.inl rfl⟩
theorem po_RX8_0_8_10_1 : POK RX8 false 8 10 1 := ⟨RX8, TX8, 11, tyX8, rfl, tyX8_ok, nmX8, rfl, Or.inl rfl⟩
theorem no_RX10_9 : NOK WB RX10 9 7 [0, 0, 2, 2, 2, 2, 2, 2, 2, 2, 2] := ⟨RX7, TX7, 11, tyX7, rfl, uw_7, tyX7_ok, (wb_1 29 rfl rfl), (wb_1 30 rfl rfl), (wb_1 2 rfl rfl), rfl, nok_fk rfl⟩
theorem po_RX10_1_10_0_2 : POK RX10 true 10 0 2 := ⟨RX10, TX10, 10, tyX10, rfl, tyX10_ok, nmX10, rfl, Or.inr ⟨rfl, rfl, rfl⟩⟩
theorem no_RX10_16 : NOK WB RX10 16 8 [2, 2, 0, 2, 0, 2, 2, 2, 0, 0, 1] := ⟨RX8, TX8, 11, tyX8, rfl, uw_8, tyX8_ok, (wb_1 88 rfl rfl), (wb_1 89 rfl rfl), (wb_1 4 rfl rfl), rfl, nok_fk rfl⟩
theorem po_RX10_1_10_1_2 : POK RX10 true 10 1 2 := ⟨RX10, TX10, 10, tyX10, rfl, tyX10_ok, nmX10, rfl, Or.inr ⟨rfl, rfl, rfl⟩⟩
theorem no_RX10_25 : NOK WB RX10 25 2 [2, 2, 0, 0, 2] := ⟨RX2, TX2, 5, tyX2, rfl, uw_2, tyX2_ok, (wb_1 143 rfl rfl), (wb_1 144 rfl rfl), (wb_1 5 rfl rfl), rfl, nok_fk rfl⟩
theorem po_RX10_1_10_2_2 : POK RX10 true 10 2 2 := ⟨RX10, TX10, 10, tyX10, rfl, tyX10_ok, nmX10, rfl, Or.inr ⟨rfl, rfl, rfl⟩⟩
theorem no_RX10_34 : NOK WB RX10 34 3 [2, 2, 2, 2, 2, 0, 2, 2, 2, 2, 2, 2, 0, 0, 0, 0] := ⟨RX3, TX3, 16, tyX3, rfl, uw_3, tyX3_ok, (wb_1 171 rfl rfl), (wb_1 172 rfl rfl), (wb_1 6 rfl rfl), rfl, nok_fk rfl⟩
theorem fo_RX10_37 : FOK WB RX10 37 10 3 := ⟨RX10, TX10, 10, "RuleForge", rfl, uw_10, by decide, (wb_3 6 rfl rfl), Or.inl rfl⟩
theorem po_RX10_1_10_3_2 : POK RX10 true 10 3 2 := ⟨RX10, TX10, 10, tyX10, rfl, tyX10_ok, nmX10, rfl, Or.inr ⟨rfl, rfl, rfl⟩⟩
theorem no_RX10_41 : NOK WB RX10 41 6 [2, 2, 2, 0, 0, 2, 2, 2, 2, 2] := ⟨RX6, TX6, 10, tyX6, rfl, uw_6, tyX6_ok, (wb_2 52 rfl rfl), (wb_2 53 rfl rfl), (wb_1 8 rfl rfl), rfl, nok_fk rfl⟩
theorem fo_RX10_46 : FOK WB RX10 46 10 4 := ⟨RX10, TX10, 10, "RuleForge", rfl, uw_10, by decide, (wb_3 7 rfl rfl), Or.inl rfl⟩
theorem po_RX10_1_10_4_2 : POK RX10 true 10 4 2 := ⟨RX10, TX10, 10, tyX10, rfl, tyX10_ok, nmX10, rfl, Or.inr ⟨rfl, rfl, rfl⟩⟩
theorem no_RX10_50 : NOK WB RX10 50 9 [2, 2, 2, 2, 0, 0, 0, 0, 0, 0, 0, 0, 0, 0, 0] := ⟨RX9, TX9, 15, tyX9, rfl, uw_9, tyX9_ok, (wb_2 95 rfl rfl), (wb_2 96 rfl rfl), (wb_1 9 rfl rfl), rfl, nok_fk rfl⟩
theorem no_RX10_55 : NOK WB RX10 55 1 [2, 2, 0, 1, 2, 2, 2, 0, 0] := ⟨RX1, TX1, 9, tyX1, rfl, uw_1, tyX1_ok, (wb_2 138 rfl rfl), (wb_2 139 rfl rfl), (wb_1 10 rfl rfl), rfl, nok_fk rfl⟩
theorem fo_RX10_60 : FOK WB RX10 60 10 5 := ⟨RX10, TX10, 10, "RuleForge", rfl, uw_10, by decide, (wb_3 8 rfl rfl), Or.inl rfl⟩
theorem po_RX10_1_10_5_2 : POK RX10 true 10 5 2 := ⟨RX10, TX10, 10, tyX10, rfl, tyX10_ok, nmX10, rfl, Or.inr ⟨rfl, rfl, rfl⟩⟩
theorem no_RX10_64 : NOK WB RX10 64 5 [2, 2, 0, 0, 2, 2, 2, 0, 0] := ⟨RX5, TX5, 9, tyX5, rfl, uw_5, tyX5_ok, (wb_2 168 rfl rfl), (wb_2 169 rfl rfl), (wb_1 11 rfl rfl), rfl, nok_fk rfl⟩
theorem fo_RX10_67 : FOK WB RX10 67 10 6 := ⟨RX10, TX10, 10, "RuleForge", rfl, uw_10, by decide, (wb_3 9 rfl rfl), Or.inl rfl⟩
theorem po_RX10_1_10_6_2 : POK RX10 true 10 6 2 := ⟨RX10, TX10, 10, tyX10, rfl, tyX10_ok, nmX10, rfl, Or.inr ⟨rfl, rfl, rfl⟩⟩
theorem no_RX10_71 : NOK WB RX10 71 0 [2, 2, 2, 2, 0, 2, 2, 2, 0, 2, 0, 0, 0, 2] := ⟨RX0, TX0, 14, tyX0, rfl, uw_0, tyX0_ok, (wb_2 198 rfl rfl), (wb_2 199 rfl rfl), (wb_1 12 rfl rfl), rfl, nok_fk rfl⟩
theorem fo_RX10_74 : FOK WB RX10 74 10 7 := ⟨RX10, TX10, 10, "RuleForge", rfl, uw_10, by decide, (wb_3 10 rfl rfl), Or.inl rfl⟩
theorem po_RX10_1_10_7_2 : POK RX10 true 10 7 2 := ⟨RX10, TX10, 10, tyX10, rfl, tyX10_ok, nmX10, rfl, Or.inr ⟨rfl, rfl, rfl⟩⟩
theorem fo_RX2_9 : FOK WB RX2 9 2 4 := ⟨RX2, TX2, 5, "RuleForge$Laws", rfl, uw_2, by decide, (wb_1 157 rfl rfl), Or.inl rfl⟩
theorem po_RX2_0_2_3_0 : POK RX2 false 2 3 0 := ⟨RX2, TX2, 5, tyX2, rfl, tyX2_ok, nmX2, rfl, Or.inl rfl⟩
theorem po_RX2_0_2_2_0 : POK RX2 false 2 2 0 := ⟨RX2, TX2, 5, tyX2, rfl, tyX2_ok, nmX2, rfl, Or.inl rfl⟩
theorem fo_RX4_11 : FOK WB RX4 11 4 3 := ⟨RX4, TX4, 16, "RuleForge$Pieces", rfl, uw_4, by decide, (wb_1 186 rfl rfl), Or.inl rfl⟩
theorem po_RX4_1_4_3_2 : POK RX4 true 4 3 2 := ⟨RX4, TX4, 16, tyX4, rfl, tyX4_ok, nmX4, rfl, Or.inr ⟨rfl, rfl, rfl⟩⟩
theorem fo_RX4_15 : FOK WB RX4 15 4 4 := ⟨RX4, TX4, 16, "RuleForge$Pieces", rfl, uw_4, by decide, (wb_1 188 rfl rfl), Or.inl rfl⟩
theorem po_RX4_1_4_4_2 : POK RX4 true 4 4 2 := ⟨RX4, TX4, 16, tyX4, rfl, tyX4_ok, nmX4, rfl, Or.inr ⟨rfl, rfl, rfl⟩⟩
theorem fo_RX4_18 : FOK WB RX4 18 4 5 := ⟨RX4, TX4, 16, "RuleForge$Pieces", rfl, uw_4, by decide, (wb_1 189 rfl rfl), Or.inl rfl⟩
theorem po_RX4_1_4_5_2 : POK RX4 true 4 5 2 := ⟨RX4, TX4, 16, tyX4, rfl, tyX4_ok, nmX4, rfl, Or.inr ⟨rfl, rfl, rfl⟩⟩
theorem fo_RX4_21 : FOK WB RX4 21 4 6 := ⟨RX4, TX4, 16, "RuleForge$Pieces", rfl, uw_4, by decide, (wb_1 191 rfl rfl), Or.inl rfl⟩
theorem po_RX4_1_4_6_2 : POK RX4 true 4 6 2 := ⟨RX4, TX4, 16, tyX4, rfl, tyX4_ok, nmX4, rfl, Or.inr ⟨rfl, rfl, rfl⟩⟩
theorem fo_RX4_24 : FOK WB RX4 24 4 7 := ⟨RX4, TX4, 16, "RuleForge$Pieces", rfl, uw_4, by decide, (wb_1 192 rfl rfl), Or.inl rfl⟩
theorem po_RX4_1_4_7_2 : POK RX4 true 4 7 2 := ⟨RX4, TX4, 16, tyX4, rfl, tyX4_ok, nmX4, rfl, Or.inr ⟨rfl, rfl, rfl⟩⟩
theorem fo_RX4_27 : FOK WB RX4 27 4 8 := ⟨RX4, TX4, 16, "RuleForge$Pieces", rfl, uw_4, by decide, (wb_1 193 rfl rfl), Or.inl rfl⟩
theorem po_RX4_1_4_8_2 : POK RX4 true 4 8 2 := ⟨RX4, TX4, 16, tyX4, rfl, tyX4_ok, nmX4, rfl, Or.inr ⟨rfl, rfl, rfl⟩⟩
theorem fo_RX4_30 : FOK WB RX4 30 4 10 := ⟨RX4, TX4, 16, "RuleForge$Pieces", rfl, uw_4, by decide, (wb_1 197 rfl rfl), Or.inl rfl⟩
theorem po_RX4_1_4_10_2 : POK RX4 true 4 10 2 := ⟨RX4, TX4, 16, tyX4, rfl, tyX4_ok, nmX4, rfl, Or.inr ⟨rfl, rfl, rfl⟩⟩
theorem fo_RX4_33 : FOK WB RX4 33 4 11 := ⟨RX4, TX4, 16, "RuleForge$Pieces", rfl, uw_4, by decide, (wb_1 199 rfl rfl), Or.inl rfl⟩
theorem po_RX4_1_4_11_2 : POK RX4 true 4 11 2 := ⟨RX4, TX4, 16, tyX4, rfl, tyX4_ok, nmX4, rfl, Or.inr ⟨rfl, rfl, rfl⟩⟩
theorem fo_RX4_36 : FOK WB RX4 36 4 12 := ⟨RX4, TX4, 16, "RuleForge$Pieces", rfl, uw_4, by decide, (wb_1 201 rfl rfl), Or.inl rfl⟩
theorem po_RX4_1_4_12_2 : POK RX4 true 4 12 2 := ⟨RX4, TX4, 16, tyX4, rfl, tyX4_ok, nmX4, rfl, Or.inr ⟨rfl, rfl, rfl⟩⟩
theorem fo_RX4_39 : FOK WB RX4 39 4 13 := ⟨RX4, TX4, 16, "RuleForge$Pieces", rfl, uw_4, by decide, (wb_1 202 rfl rfl), Or.inl rfl⟩
theorem po_RX4_1_4_13_2 : POK RX4 true 4 13 2 := ⟨RX4, TX4, 16, tyX4, rfl, tyX4_ok, nmX4, rfl, Or.inr ⟨rfl, rfl, rfl⟩⟩
theorem fo_RX4_42 : FOK WB RX4 42 4 14 := ⟨RX4, TX4, 16, "RuleForge$Pieces", rfl, uw_4, by decide, (wb_1 203 rfl rfl), Or.inl rfl⟩
theorem po_RX4_1_4_14_2 : POK RX4 true 4 14 2 := ⟨RX4, TX4, 16, tyX4, rfl, tyX4_ok, nmX4, rfl, Or.inr ⟨rfl, rfl, rfl⟩⟩
theorem fo_RX4_45 : FOK WB RX4 45 4 0 := ⟨RX4, TX4, 16, "RuleForge$Pieces", rfl, uw_4, by decide, (wb_1 183 rfl rfl), Or.inl rfl⟩
theorem po_RX4_1_4_0_2 : POK RX4 true 4 0 2 := ⟨RX4, TX4, 16, tyX4, rfl, tyX4_ok, nmX4, rfl, Or.inr ⟨rfl, rfl, rfl⟩⟩
theorem fo_RX4_49 : FOK WB RX4 49 8 0 := ⟨RX8, TX8, 11, "RuleForge$Terms", rfl, uw_8, by decide, (wb_1 98 rfl rfl), Or.inl rfl⟩
theorem fo_RX4_55 : FOK WB RX4 55 4 1 := ⟨RX4, TX4, 16, "RuleForge$Pieces", rfl, uw_4, by decide, (wb_1 184 rfl rfl), Or.inl rfl⟩
theorem po_RX4_1_4_1_2 : POK RX4 true 4 1 2 := ⟨RX4, TX4, 16, tyX4, rfl, tyX4_ok, nmX4, rfl, Or.inr ⟨rfl, rfl, rfl⟩⟩
theorem fo_RX3_11 : FOK WB RX3 11 3 3 := ⟨RX3, TX3, 16, "RuleForge$Matcher", rfl, uw_3, by decide, (wb_2 2 rfl rfl), Or.inl rfl⟩
theorem po_RX3_1_3_3_2 : POK RX3 true 3 3 2 := ⟨RX3, TX3, 16, tyX3, rfl, tyX3_ok, nmX3, rfl, Or.inr ⟨rfl, rfl, rfl⟩⟩
theorem fo_RX3_17 : FOK WB RX3 17 3 4 := ⟨RX3, TX3, 16, "RuleForge$Matcher", rfl, uw_3, by decide, (wb_2 3 rfl rfl), Or.inl rfl⟩
theorem po_RX3_1_3_4_2 : POK RX3 true 3 4 2 := ⟨RX3, TX3, 16, tyX3, rfl, tyX3_ok, nmX3, rfl, Or.inr ⟨rfl, rfl, rfl⟩⟩
theorem fo_RX3_20 : FOK WB RX3 20 3 6 := ⟨RX3, TX3, 16, "RuleForge$Matcher", rfl, uw_3, by decide, (wb_2 5 rfl rfl), Or.inl rfl⟩
theorem po_RX3_1_3_6_2 : POK RX3 true 3 6 2 := ⟨RX3, TX3, 16, tyX3, rfl, tyX3_ok, nmX3, rfl, Or.inr ⟨rfl, rfl, rfl⟩⟩
theorem fo_RX3_23 : FOK WB RX3 23 3 7 := ⟨RX3, TX3, 16, "RuleForge$Matcher", rfl, uw_3, by decide, (wb_2 6 rfl rfl), Or.inl rfl⟩
theorem po_RX3_1_3_7_2 : POK RX3 true 3 7 2 := ⟨RX3, TX3, 16, tyX3, rfl, tyX3_ok, nmX3, rfl, Or.inr ⟨rfl, rfl, rfl⟩⟩
theorem fo_RX3_26 : FOK WB RX3 26 3 8 := ⟨RX3, TX3, 16, "RuleForge$Matcher", rfl, uw_3, by decide, (wb_2 7 rfl rfl), Or.inl rfl⟩
theorem po_RX3_1_3_8_2 : POK RX3 true 3 8 2 := ⟨RX3, TX3, 16, tyX3, rfl, tyX3_ok, nmX3, rfl, Or.inr ⟨rfl, rfl, rfl⟩⟩
theorem fo_RX3_29 : FOK WB RX3 29 3 9 := ⟨RX3, TX3, 16, "RuleForge$Matcher", rfl, uw_3, by decide, (wb_2 8 rfl rfl), Or.inl rfl⟩
theorem po_RX3_1_3_9_2 : POK RX3 true 3 9 2 := ⟨RX3, TX3, 16, tyX3, rfl, tyX3_ok, nmX3, rfl, Or.inr ⟨rfl, rfl, rfl⟩⟩
theorem fo_RX3_32 : FOK WB RX3 32 3 10 := ⟨RX3, TX3, 16, "RuleForge$Matcher", rfl, uw_3, by decide, (wb_2 9 rfl rfl), Or.inl rfl⟩
theorem po_RX3_1_3_10_2 : POK RX3 true 3 10 2 := ⟨RX3, TX3, 16, tyX3, rfl, tyX3_ok, nmX3, rfl, Or.inr ⟨rfl, rfl, rfl⟩⟩
theorem fo_RX3_35 : FOK WB RX3 35 3 11 := ⟨RX3, TX3, 16, "RuleForge$Matcher", rfl, uw_3, by decide, (wb_2 10 rfl rfl), Or.inl rfl⟩
theorem po_RX3_1_3_11_2 : POK RX3 true 3 11 2 := ⟨RX3, TX3, 16, tyX3, rfl, tyX3_ok, nmX3, rfl, Or.inr ⟨rfl, rfl, rfl⟩⟩
theorem fo_RX3_38 : FOK WB RX3 38 3 0 := ⟨RX3, TX3, 16, "RuleForge$Matcher", rfl, uw_3, by decide, (wb_1 239 rfl rfl), Or.inl rfl⟩
theorem po_RX3_1_3_0_2 : POK RX3 true 3 0 2 := ⟨RX3, TX3, 16, tyX3, rfl, tyX3_ok, nmX3, rfl, Or.inr ⟨rfl, rfl, rfl⟩⟩
theorem fo_RX3_42 : FOK WB RX3 42 8 0 := ⟨RX8, TX8, 11, "RuleForge$Terms", rfl, uw_8, by decide, (wb_1 97 rfl rfl), Or.inl rfl⟩
theorem fo_RX3_48 : FOK WB RX3 48 3 1 := ⟨RX3, TX3, 16, "RuleForge$Matcher", rfl, uw_3, by decide, (wb_2 0 rfl rfl), Or.inl rfl⟩
theorem po_RX3_1_3_1_2 : POK RX3 true 3 1 2 := ⟨RX3, TX3, 16, tyX3, rfl, tyX3_ok, nmX3, rfl, Or.inr ⟨rfl, rfl, rfl⟩⟩
theorem no_RX3_9 : NOK WB RX3 9 4 [2, 2, 0, 2, 2, 2, 2, 2, 2, 0, 2, 2, 2, 2, 2, 0] := ⟨RX4, TX4, 16, tyX4, rfl, uw_4, tyX4_ok, (wb_1 177 rfl rfl), (wb_1 178 rfl rfl), (wb_1 7 rfl rfl), rfl, nok_fk rfl⟩
theorem fo_RX3_52 : FOK WB RX3 52 3 2 := ⟨RX3, TX3, 16, "RuleForge$Matcher", rfl, uw_3, by decide, (wb_2 1 rfl rfl), Or.inl rfl⟩
theorem po_RX3_1_3_2_2 : POK RX3 true 3 2 2 := ⟨RX3, TX3, 16, tyX3, rfl, tyX3_ok, nmX3, rfl, Or.inr ⟨rfl, rfl, rfl⟩⟩
theorem fo_RX0_9 : FOK WB RX0 9 0 5 := ⟨RX0, TX0, 14, "RuleForge$CriticalPairs", rfl, uw_0, by decide, (wb_2 208 rfl rfl), Or.inl rfl⟩
theorem po_RX0_1_0_5_2 : POK RX0 true 0 5 2 := ⟨RX0, TX0, 14, tyX0, rfl, tyX0_ok, nmX0, rfl, Or.inr ⟨rfl, rfl, rfl⟩⟩
theorem fo_RX0_15 : FOK WB RX0 15 0 6 := ⟨RX0, TX0, 14, "RuleForge$CriticalPairs", rfl, uw_0, by decide, (wb_2 209 rfl rfl), Or.inl rfl⟩
theorem po_RX0_1_0_6_2 : POK RX0 true 0 6 2 := ⟨RX0, TX0, 14, tyX0, rfl, tyX0_ok, nmX0, rfl, Or.inr ⟨rfl, rfl, rfl⟩⟩
theorem fo_RX0_18 : FOK WB RX0 18 0 7 := ⟨RX0, TX0, 14, "RuleForge$CriticalPairs", rfl, uw_0, by decide, (wb_2 210 rfl rfl), Or.inl rfl⟩
theorem po_RX0_1_0_7_2 : POK RX0 true 0 7 2 := ⟨RX0, TX0, 14, tyX0, rfl, tyX0_ok, nmX0, rfl, Or.inr ⟨rfl, rfl, rfl⟩⟩
theorem fo_RX0_21 : FOK WB RX0 21 0 9 := ⟨RX0, TX0, 14, "RuleForge$CriticalPairs", rfl, uw_0, by decide, (wb_2 211 rfl rfl), Or.inl rfl⟩
theorem po_RX0_1_0_9_2 : POK RX0 true 0 9 2 := ⟨RX0, TX0, 14, tyX0, rfl, tyX0_ok, nmX0, rfl, Or.inr ⟨rfl, rfl, rfl⟩⟩
theorem fo_RX0_24 : FOK WB RX0 24 0 13 := ⟨RX0, TX0, 14, "RuleForge$CriticalPairs", rfl, uw_0, by decide, (wb_2 212 rfl rfl), Or.inl rfl⟩
theorem po_RX0_1_0_13_2 : POK RX0 true 0 13 2 := ⟨RX0, TX0, 14, tyX0, rfl, tyX0_ok, nmX0, rfl, Or.inr ⟨rfl, rfl, rfl⟩⟩
theorem fo_RX0_28 : FOK WB RX0 28 6 0 := ⟨RX6, TX6, 10, "RuleForge$Reducer", rfl, uw_6, by decide, (wb_2 59 rfl rfl), Or.inl rfl⟩
theorem fo_RX0_34 : FOK WB RX0 34 0 0 := ⟨RX0, TX0, 14, "RuleForge$CriticalPairs", rfl, uw_0, by decide, (wb_2 204 rfl rfl), Or.inl rfl⟩
theorem po_RX0_1_0_0_2 : POK RX0 true 0 0 2 := ⟨RX0, TX0, 14, tyX0, rfl, tyX0_ok, nmX0, rfl, Or.inr ⟨rfl, rfl, rfl⟩⟩
theorem fo_RX0_35 : FOK WB RX0 35 8 0 := ⟨RX8, TX8, 11, "RuleForge$Terms", rfl, uw_8, by decide, (wb_1 95 rfl rfl), Or.inl rfl⟩
theorem fo_RX0_41 : FOK WB RX0 41 0 1 := ⟨RX0, TX0, 14, "RuleForge$CriticalPairs", rfl, uw_0, by decide, (wb_2 205 rfl rfl), Or.inl rfl⟩
theorem po_RX0_1_0_1_2 : POK RX0 true 0 1 2 := ⟨RX0, TX0, 14, tyX0, rfl, tyX0_ok, nmX0, rfl, Or.inr ⟨rfl, rfl, rfl⟩⟩
theorem fo_RX0_42 : FOK WB RX0 42 6 1 := ⟨RX6, TX6, 10, "RuleForge$Reducer", rfl, uw_6, by decide, (wb_2 63 rfl rfl), Or.inl rfl⟩
theorem fo_RX0_46 : FOK WB RX0 46 0 2 := ⟨RX0, TX0, 14, "RuleForge$CriticalPairs", rfl, uw_0, by decide, (wb_2 206 rfl rfl), Or.inl rfl⟩
theorem po_RX0_1_0_2_2 : POK RX0 true 0 2 2 := ⟨RX0, TX0, 14, tyX0, rfl, tyX0_ok, nmX0, rfl, Or.inr ⟨rfl, rfl, rfl⟩⟩
theorem fo_RX0_47 : FOK WB RX0 47 0 3 := ⟨RX0, TX0, 14, "RuleForge$CriticalPairs", rfl, uw_0, by decide, (wb_2 207 rfl rfl), Or.inl rfl⟩
theorem po_RX0_1_0_3_2 : POK RX0 true 0 3 2 := ⟨RX0, TX0, 14, tyX0, rfl, tyX0_ok, nmX0, rfl, Or.inr ⟨rfl, rfl, rfl⟩⟩
theorem fo_RX6_11 : FOK WB RX6 11 6 5 := ⟨RX6, TX6, 10, "RuleForge$Reducer", rfl, uw_6, by decide, (wb_2 69 rfl rfl), Or.inl rfl⟩
theorem po_RX6_1_6_5_2 : POK RX6 true 6 5 2 := ⟨RX6, TX6, 10, tyX6, rfl, tyX6_ok, nmX6, rfl, Or.inr ⟨rfl, rfl, rfl⟩⟩
theorem fo_RX6_15 : FOK WB RX6 15 6 6 := ⟨RX6, TX6, 10, "RuleForge$Reducer", rfl, uw_6, by decide, (wb_2 70 rfl rfl), Or.inl rfl⟩
theorem po_RX6_1_6_6_2 : POK RX6 true 6 6 2 := ⟨RX6, TX6, 10, tyX6, rfl, tyX6_ok, nmX6, rfl, Or.inr ⟨rfl, rfl, rfl⟩⟩
theorem fo_RX6_18 : FOK WB RX6 18 6 7 := ⟨RX6, TX6, 10, "RuleForge$Reducer", rfl, uw_6, by decide, (wb_2 71 rfl rfl), Or.inl rfl⟩
theorem po_RX6_1_6_7_2 : POK RX6 true 6 7 2 := ⟨RX6, TX6, 10, tyX6, rfl, tyX6_ok, nmX6, rfl, Or.inr ⟨rfl, rfl, rfl⟩⟩
theorem fo_RX6_21 : FOK WB RX6 21 6 8 := ⟨RX6, TX6, 10, "RuleForge$Reducer", rfl, uw_6, by decide, (wb_2 72 rfl rfl), Or.inl rfl⟩
theorem po_RX6_1_6_8_2 : POK RX6 true 6 8 2 := ⟨RX6, TX6, 10, tyX6, rfl, tyX6_ok, nmX6, rfl, Or.inr ⟨rfl, rfl, rfl⟩⟩
theorem fo_RX6_24 : FOK WB RX6 24 6 9 := ⟨RX6, TX6, 10, "RuleForge$Reducer", rfl, uw_6, by decide, (wb_2 73 rfl rfl), Or.inl rfl⟩
theorem po_RX6_1_6_9_2 : POK RX6 true 6 9 2 := ⟨RX6, TX6, 10, tyX6, rfl, tyX6_ok, nmX6, rfl, Or.inr ⟨rfl, rfl, rfl⟩⟩
theorem fo_RX6_27 : FOK WB RX6 27 2 0 := ⟨RX2, TX2, 5, "RuleForge$Laws", rfl, uw_2, by decide, (wb_1 150 rfl rfl), Or.inl rfl⟩
theorem fo_RX6_33 : FOK WB RX6 33 6 0 := ⟨RX6, TX6, 10, "RuleForge$Reducer", rfl, uw_6, by decide, (wb_2 60 rfl rfl), Or.inl rfl⟩
theorem po_RX6_1_6_0_2 : POK RX6 true 6 0 2 := ⟨RX6, TX6, 10, tyX6, rfl, tyX6_ok, nmX6, rfl, Or.inr ⟨rfl, rfl, rfl⟩⟩
theorem fo_RX6_34 : FOK WB RX6 34 6 1 := ⟨RX6, TX6, 10, "RuleForge$Reducer", rfl, uw_6, by decide, (wb_2 62 rfl rfl), Or.inl rfl⟩
theorem po_RX6_1_6_1_2 : POK RX6 true 6 1 2 := ⟨RX6, TX6, 10, tyX6, rfl, tyX6_ok, nmX6, rfl, Or.inr ⟨rfl, rfl, rfl⟩⟩
theorem fo_RX6_38 : FOK WB RX6 38 6 2 := ⟨RX6, TX6, 10, "RuleForge$Reducer", rfl, uw_6, by decide, (wb_2 65 rfl rfl), Or.inl rfl⟩
theorem po_RX6_1_6_2_2 : POK RX6 true 6 2 2 := ⟨RX6, TX6, 10, tyX6, rfl, tyX6_ok, nmX6, rfl, Or.inr ⟨rfl, rfl, rfl⟩⟩
theorem fo_RX1_9 : FOK WB RX1 9 1 4 := ⟨RX1, TX1, 9, "RuleForge$Explorer", rfl, uw_1, by decide, (wb_2 146 rfl rfl), Or.inl rfl⟩
theorem po_RX1_1_1_4_2 : POK RX1 true 1 4 2 := ⟨RX1, TX1, 9, tyX1, rfl, tyX1_ok, nmX1, rfl, Or.inr ⟨rfl, rfl, rfl⟩⟩
theorem fo_RX1_15 : FOK WB RX1 15 1 5 := ⟨RX1, TX1, 9, "RuleForge$Explorer", rfl, uw_1, by decide, (wb_2 147 rfl rfl), Or.inl rfl⟩
theorem po_RX1_1_1_5_2 : POK RX1 true 1 5 2 := ⟨RX1, TX1, 9, tyX1, rfl, tyX1_ok, nmX1, rfl, Or.inr ⟨rfl, rfl, rfl⟩⟩
theorem fo_RX1_18 : FOK WB RX1 18 1 6 := ⟨RX1, TX1, 9, "RuleForge$Explorer", rfl, uw_1, by decide, (wb_2 148 rfl rfl), Or.inl rfl⟩
theorem po_RX1_1_1_6_2 : POK RX1 true 1 6 2 := ⟨RX1, TX1, 9, tyX1, rfl, tyX1_ok, nmX1, rfl, Or.inr ⟨rfl, rfl, rfl⟩⟩
theorem fo_RX1_21 : FOK WB RX1 21 9 0 := ⟨RX9, TX9, 15, "RuleForge$Walker", rfl, uw_9, by decide, (wb_2 102 rfl rfl), Or.inl rfl⟩
theorem fo_RX1_27 : FOK WB RX1 27 1 0 := ⟨RX1, TX1, 9, "RuleForge$Explorer", rfl, uw_1, by decide, (wb_2 144 rfl rfl), Or.inl rfl⟩
theorem po_RX1_1_1_0_2 : POK RX1 true 1 0 2 := ⟨RX1, TX1, 9, tyX1, rfl, tyX1_ok, nmX1, rfl, Or.inr ⟨rfl, rfl, rfl⟩⟩
theorem fo_RX1_28 : FOK WB RX1 28 1 1 := ⟨RX1, TX1, 9, "RuleForge$Explorer", rfl, uw_1, by decide, (wb_2 145 rfl rfl), Or.inl rfl⟩
theorem po_RX1_1_1_1_2 : POK RX1 true 1 1 2 := ⟨RX1, TX1, 9, tyX1, rfl, tyX1_ok, nmX1, rfl, Or.inr ⟨rfl, rfl, rfl⟩⟩
theorem fo_RX5_11 : FOK WB RX5 11 5 4 := ⟨RX5, TX5, 9, "RuleForge$Plans", rfl, uw_5, by decide, (wb_2 176 rfl rfl), Or.inl rfl⟩
theorem po_RX5_1_5_4_2 : POK RX5 true 5 4 2 := ⟨RX5, TX5, 9, tyX5, rfl, tyX5_ok, nmX5, rfl, Or.inr ⟨rfl, rfl, rfl⟩⟩
theorem fo_RX5_15 : FOK WB RX5 15 5 5 := ⟨RX5, TX5, 9, "RuleForge$Plans", rfl, uw_5, by decide, (wb_2 177 rfl rfl), Or.inl rfl⟩
theorem po_RX5_1_5_5_2 : POK RX5 true 5 5 2 := ⟨RX5, TX5, 9, tyX5, rfl, tyX5_ok, nmX5, rfl, Or.inr ⟨rfl, rfl, rfl⟩⟩
theorem fo_RX5_18 : FOK WB RX5 18 5 6 := ⟨RX5, TX5, 9, "RuleForge$Plans", rfl, uw_5, by decide, (wb_2 178 rfl rfl), Or.inl rfl⟩
theorem po_RX5_1_5_6_2 : POK RX5 true 5 6 2 := ⟨RX5, TX5, 9, tyX5, rfl, tyX5_ok, nmX5, rfl, Or.inr ⟨rfl, rfl, rfl⟩⟩
theorem fo_RX5_21 : FOK WB RX5 21 9 0 := ⟨RX9, TX9, 15, "RuleForge$Walker", rfl, uw_9, by decide, (wb_2 103 rfl rfl), Or.inl rfl⟩
theorem fo_RX5_27 : FOK WB RX5 27 5 0 := ⟨RX5, TX5, 9, "RuleForge$Plans", rfl, uw_5, by decide, (wb_2 174 rfl rfl), Or.inl rfl⟩
theorem po_RX5_1_5_0_2 : POK RX5 true 5 0 2 := ⟨RX5, TX5, 9, tyX5, rfl, tyX5_ok, nmX5, rfl, Or.inr ⟨rfl, rfl, rfl⟩⟩
theorem fo_RX5_28 : FOK WB RX5 28 5 1 := ⟨RX5, TX5, 9, "RuleForge$Plans", rfl, uw_5, by decide, (wb_2 175 rfl rfl), Or.inl rfl⟩
theorem po_RX5_1_5_1_2 : POK RX5 true 5 1 2 := ⟨RX5, TX5, 9, tyX5, rfl, tyX5_ok, nmX5, rfl, Or.inr ⟨rfl, rfl, rfl⟩⟩
theorem fo_RX9_9 : FOK WB RX9 9 6 0 := ⟨RX6, TX6, 10, "RuleForge$Reducer", rfl, uw_6, by decide, (wb_2 58 rfl rfl), Or.inl rfl⟩
theorem fo_RX9_15 : FOK WB RX9 15 9 0 := ⟨RX9, TX9, 15, "RuleForge$Walker", rfl, uw_9, by decide, (wb_2 101 rfl rfl), Or.inl rfl⟩
theorem po_RX9_1_9_0_2 : POK RX9 true 9 0 2 := ⟨RX9, TX9, 15, tyX9, rfl, tyX9_ok, nmX9, rfl, Or.inr ⟨rfl, rfl, rfl⟩⟩
theorem fo_RX9_18 : FOK WB RX9 18 9 1 := ⟨RX9, TX9, 15, "RuleForge$Walker", rfl, uw_9, by decide, (wb_2 104 rfl rfl), Or.inl rfl⟩
theorem po_RX9_1_9_1_2 : POK RX9 true 9 1 2 := ⟨RX9, TX9, 15, tyX9, rfl, tyX9_ok, nmX9, rfl, Or.inr ⟨rfl, rfl, rfl⟩⟩
theorem fo_RX9_22 : FOK WB RX9 22 6 1 := ⟨RX6, TX6, 10, "RuleForge$Reducer", rfl, uw_6, by decide, (wb_2 61 rfl rfl), Or.inl rfl⟩
theorem fo_RX9_26 : FOK WB RX9 26 9 2 := ⟨RX9, TX9, 15, "RuleForge$Walker", rfl, uw_9, by decide, (wb_2 105 rfl rfl), Or.inl rfl⟩
theorem po_RX9_1_9_2_2 : POK RX9 true 9 2 2 := ⟨RX9, TX9, 15, tyX9, rfl, tyX9_ok, nmX9, rfl, Or.inr ⟨rfl, rfl, rfl⟩⟩
theorem fo_RX9_27 : FOK WB RX9 27 6 2 := ⟨RX6, TX6, 10, "RuleForge$Reducer", rfl, uw_6, by decide, (wb_2 64 rfl rfl), Or.inl rfl⟩
theorem fo_RX9_31 : FOK WB RX9 31 9 3 := ⟨RX9, TX9, 15, "RuleForge$Walker", rfl, uw_9, by decide, (wb_2 106 rfl rfl), Or.inl rfl⟩
theorem po_RX9_1_9_3_2 : POK RX9 true 9 3 2 := ⟨RX9, TX9, 15, tyX9, rfl, tyX9_ok, nmX9, rfl, Or.inr ⟨rfl, rfl, rfl⟩⟩
theorem fo_RX10_78 : FOK WB RX10 78 7 0 := ⟨RX7, TX7, 11, "RuleForge$Signature", rfl, uw_7, by decide, (wb_1 38 rfl rfl), Or.inl rfl⟩
theorem po_RX10_0_7_0_0 : POK RX10 false 7 0 0 := ⟨RX7, TX7, 11, tyX7, rfl, tyX7_ok, nmX7, rfl, Or.inl rfl⟩
theorem po_RX2_1_2_4_2 : POK RX2 true 2 4 2 := ⟨RX2, TX2, 5, tyX2, rfl, tyX2_ok, nmX2, rfl, Or.inr ⟨rfl, rfl, rfl⟩⟩
theorem fo_RX2_15 : FOK WB RX2 15 2 0 := ⟨RX2, TX2, 5, "RuleForge$Laws", rfl, uw_2, by decide, (wb_1 149 rfl rfl), Or.inl rfl⟩
theorem po_RX2_1_2_0_2 : POK RX2 true 2 0 2 := ⟨RX2, TX2, 5, tyX2, rfl, tyX2_ok, nmX2, rfl, Or.inr ⟨rfl, rfl, rfl⟩⟩
theorem fo_RX2_19 : FOK WB RX2 19 8 0 := ⟨RX8, TX8, 11, "RuleForge$Terms", rfl, uw_8, by decide, (wb_1 94 rfl rfl), Or.inl rfl⟩
theorem fo_RX2_25 : FOK WB RX2 25 2 1 := ⟨RX2, TX2, 5, "RuleForge$Laws", rfl, uw_2, by decide, (wb_1 151 rfl rfl), Or.inl rfl⟩
theorem po_RX2_1_2_1_2 : POK RX2 true 2 1 2 := ⟨RX2, TX2, 5, tyX2, rfl, tyX2_ok, nmX2, rfl, Or.inr ⟨rfl, rfl, rfl⟩⟩
theorem fo_RX2_37 : FOK WB RX2 37 8 1 := ⟨RX8, TX8, 11, "RuleForge$Terms", rfl, uw_8, by decide, (wb_1 103 rfl rfl), Or.inl rfl⟩
theorem fo_RX2_45 : FOK WB RX2 45 7 6 := ⟨RX7, TX7, 11, "RuleForge$Signature", rfl, uw_7, by decide, (wb_1 55 rfl rfl), Or.inl rfl⟩
theorem fo_RX2_50 : FOK WB RX2 50 7 5 := ⟨RX7, TX7, 11, "RuleForge$Signature", rfl, uw_7, by decide, (wb_1 51 rfl rfl), Or.inl rfl⟩
theorem fo_RX3_69 : FOK WB RX3 69 4 9 := ⟨RX4, TX4, 16, "RuleForge$Pieces", rfl, uw_4, by decide, (wb_1 195 rfl rfl), Or.inl rfl⟩
theorem fo_RX3_73 : FOK WB RX3 73 4 10 := ⟨RX4, TX4, 16, "RuleForge$Pieces", rfl, uw_4, by decide, (wb_1 198 rfl rfl), Or.inl rfl⟩
theorem fo_RX3_76 : FOK WB RX3 76 4 3 := ⟨RX4, TX4, 16, "RuleForge$Pieces", rfl, uw_4, by decide, (wb_1 187 rfl rfl), Or.inl rfl⟩
theorem fo_RX3_83 : FOK WB RX3 83 4 15 := ⟨RX4, TX4, 16, "RuleForge$Pieces", rfl, uw_4, by decide, (wb_1 204 rfl rfl), Or.inl rfl⟩
theorem fo_RX3_86 : FOK WB RX3 86 3 14 := ⟨RX3, TX3, 16, "RuleForge$Matcher", rfl, uw_3, by decide, (wb_2 15 rfl rfl), Or.inl rfl⟩
theorem po_RX3_0_3_14_0 : POK RX3 false 3 14 0 := ⟨RX3, TX3, 16, tyX3, rfl, tyX3_ok, nmX3, rfl, Or.inl rfl⟩
theorem fo_RX3_87 : FOK WB RX3 87 8 2 := ⟨RX8, TX8, 11, "RuleForge$Terms", rfl, uw_8, by decide, (wb_1 106 rfl rfl), Or.inl rfl⟩
theorem fo_RX3_90 : FOK WB RX3 90 3 13 := ⟨RX3, TX3, 16, "RuleForge$Matcher", rfl, uw_3, by decide, (wb_2 12 rfl rfl), Or.inl rfl⟩
theorem po_RX3_0_3_13_0 : POK RX3 false 3 13 0 := ⟨RX3, TX3, 16, tyX3, rfl, tyX3_ok, nmX3, rfl, Or.inl rfl⟩
theorem fo_RX3_93 : FOK WB RX3 93 3 15 := ⟨RX3, TX3, 16, "RuleForge$Matcher", rfl, uw_3, by decide, (wb_2 18 rfl rfl), Or.inl rfl⟩
theorem po_RX3_0_3_15_0 : POK RX3 false 3 15 0 := ⟨RX3, TX3, 16, tyX3, rfl, tyX3_ok, nmX3, rfl, Or.inl rfl⟩
theorem fo_RX3_96 : FOK WB RX3 96 3 12 := ⟨RX3, TX3, 16, "RuleForge$Matcher", rfl, uw_3, by decide, (wb_2 11 rfl rfl), Or.inl rfl⟩
theorem po_RX3_0_3_12_0 : POK RX3 false 3 12 0 := ⟨RX3, TX3, 16, tyX3, rfl, tyX3_ok, nmX3, rfl, Or.inl rfl⟩
theorem fo_RX3_102 : FOK WB RX3 102 3 5 := ⟨RX3, TX3, 16, "RuleForge$Matcher", rfl, uw_3, by decide, (wb_2 4 rfl rfl), Or.inl rfl⟩
theorem po_RX3_0_3_5_0 : POK RX3 false 3 5 0 := ⟨RX3, TX3, 16, tyX3, rfl, tyX3_ok, nmX3, rfl, Or.inl rfl⟩
theorem fo_RX3_111 : FOK WB RX3 111 4 8 := ⟨RX4, TX4, 16, "RuleForge$Pieces", rfl, uw_4, by decide, (wb_1 194 rfl rfl), Or.inl rfl⟩
theorem po_RX3_0_8_2_0 : POK RX3 false 8 2 0 := ⟨RX8, TX8, 11, tyX8, rfl, tyX8_ok, nmX8, rfl, Or.inl rfl⟩
theorem fo_RX3_140 : FOK WB RX3 140 8 1 := ⟨RX8, TX8, 11, "RuleForge$Terms", rfl, uw_8, by decide, (wb_1 102 rfl rfl), Or.inl rfl⟩
theorem fo_RX3_143 : FOK WB RX3 143 7 3 := ⟨RX7, TX7, 11, "RuleForge$Signature", rfl, uw_7, by decide, (wb_1 45 rfl rfl), Or.inl rfl⟩
theorem fo_RX3_151 : FOK WB RX3 151 8 7 := ⟨RX8, TX8, 11, "RuleForge$Terms", rfl, uw_8, by decide, (wb_1 115 rfl rfl), Or.inl rfl⟩
theorem fo_RX3_169 : FOK WB RX3 169 7 5 := ⟨RX7, TX7, 11, "RuleForge$Signature", rfl, uw_7, by decide, (wb_1 52 rfl rfl), Or.inl rfl⟩
theorem fo_RX3_175 : FOK WB RX3 175 4 5 := ⟨RX4, TX4, 16, "RuleForge$Pieces", rfl, uw_4, by decide, (wb_1 190 rfl rfl), Or.inl rfl⟩
theorem fo_RX3_198 : FOK WB RX3 198 4 11 := ⟨RX4, TX4, 16, "RuleForge$Pieces", rfl, uw_4, by decide, (wb_1 200 rfl rfl), Or.inl rfl⟩
theorem fo_RX4_56 : FOK WB RX4 56 4 2 := ⟨RX4, TX4, 16, "RuleForge$Pieces", rfl, uw_4, by decide, (wb_1 185 rfl rfl), Or.inl rfl⟩
theorem fo_RX4_60 : FOK WB RX4 60 8 1 := ⟨RX8, TX8, 11, "RuleForge$Terms", rfl, uw_8, by decide, (wb_1 100 rfl rfl), Or.inl rfl⟩
theorem po_RX4_0_4_2_0 : POK RX4 false 4 2 0 := ⟨RX4, TX4, 16, tyX4, rfl, tyX4_ok, nmX4, rfl, Or.inl rfl⟩
theorem fo_RX4_71 : FOK WB RX4 71 7 5 := ⟨RX7, TX7, 11, "RuleForge$Signature", rfl, uw_7, by decide, (wb_1 50 rfl rfl), Or.inl rfl⟩
theorem fo_RX4_76 : FOK WB RX4 76 8 2 := ⟨RX8, TX8, 11, "RuleForge$Terms", rfl, uw_8, by decide, (wb_1 108 rfl rfl), Or.inl rfl⟩
theorem po_RX4_0_8_2_0 : POK RX4 false 8 2 0 := ⟨RX8, TX8, 11, tyX8, rfl, tyX8_ok, nmX8, rfl, Or.inl rfl⟩
theorem fo_RX4_100 : FOK WB RX4 100 7 1 := ⟨RX7, TX7, 11, "RuleForge$Signature", rfl, uw_7, by decide, (wb_1 42 rfl rfl), Or.inl rfl⟩
theorem fo_RX4_103 : FOK WB RX4 103 7 6 := ⟨RX7, TX7, 11, "RuleForge$Signature", rfl, uw_7, by decide, (wb_1 56 rfl rfl), Or.inl rfl⟩
theorem fo_RX4_106 : FOK WB RX4 106 4 9 := ⟨RX4, TX4, 16, "RuleForge$Pieces", rfl, uw_4, by decide, (wb_1 196 rfl rfl), Or.inl rfl⟩
theorem po_RX4_0_4_9_0 : POK RX4 false 4 9 0 := ⟨RX4, TX4, 16, tyX4, rfl, tyX4_ok, nmX4, rfl, Or.inl rfl⟩
theorem fo_RX4_113 : FOK WB RX4 113 4 15 := ⟨RX4, TX4, 16, "RuleForge$Pieces", rfl, uw_4, by decide, (wb_1 205 rfl rfl), Or.inl rfl⟩
theorem po_RX4_0_4_15_0 : POK RX4 false 4 15 0 := ⟨RX4, TX4, 16, tyX4, rfl, tyX4_ok, nmX4, rfl, Or.inl rfl⟩
theorem fo_RX6_42 : FOK WB RX6 42 6 4 := ⟨RX6, TX6, 10, "RuleForge$Reducer", rfl, uw_6, by decide, (wb_2 68 rfl rfl), Or.inl rfl⟩
theorem po_RX6_0_6_4_0 : POK RX6 false 6 4 0 := ⟨RX6, TX6, 10, tyX6, rfl, tyX6_ok, nmX6, rfl, Or.inl rfl⟩
theorem fo_RX6_60 : FOK WB RX6 60 8 2 := ⟨RX8, TX8, 11, "RuleForge$Terms", rfl, uw_8, by decide, (wb_1 107 rfl rfl), Or.inl rfl⟩
theorem fo_RX6_67 : FOK WB RX6 67 8 1 := ⟨RX8, TX8, 11, "RuleForge$Terms", rfl, uw_8, by decide, (wb_1 101 rfl rfl), Or.inl rfl⟩
theorem fo_RX6_70 : FOK WB RX6 70 8 4 := ⟨RX8, TX8, 11, "RuleForge$Terms", rfl, uw_8, by decide, (wb_1 111 rfl rfl), Or.inl rfl⟩
theorem fo_RX6_90 : FOK WB RX6 90 2 2 := ⟨RX2, TX2, 5, "RuleForge$Laws", rfl, uw_2, by decide, (wb_1 153 rfl rfl), Or.inl rfl⟩
theorem fo_RX6_105 : FOK WB RX6 105 3 13 := ⟨RX3, TX3, 16, "RuleForge$Matcher", rfl, uw_3, by decide, (wb_2 13 rfl rfl), Or.inl rfl⟩
theorem fo_RX6_108 : FOK WB RX6 108 3 14 := ⟨RX3, TX3, 16, "RuleForge$Matcher", rfl, uw_3, by decide, (wb_2 16 rfl rfl), Or.inl rfl⟩
theorem fo_RX6_115 : FOK WB RX6 115 6 3 := ⟨RX6, TX6, 10, "RuleForge$Reducer", rfl, uw_6, by decide, (wb_2 66 rfl rfl), Or.inl rfl⟩
theorem po_RX6_0_6_3_0 : POK RX6 false 6 3 0 := ⟨RX6, TX6, 10, tyX6, rfl, tyX6_ok, nmX6, rfl, Or.inl rfl⟩
theorem po_RX6_0_8_2_0 : POK RX6 false 8 2 0 := ⟨RX8, TX8, 11, tyX8, rfl, tyX8_ok, nmX8, rfl, Or.inl rfl⟩
theorem fo_RX6_125 : FOK WB RX6 125 2 4 := ⟨RX2, TX2, 5, "RuleForge$Laws", rfl, uw_2, by decide, (wb_1 158 rfl rfl), Or.inl rfl⟩
theorem at_RX10_86_0 : ∀ v ∈ vx_atS RX10 86 (ename 0) XN, v ∈ WB ∨ v ∈ AD := at_of (by decide +kernel) (by decide +kernel)
theorem at_RX10_97_1 : ∀ v ∈ vx_atS RX10 97 (ename 1) XN, v ∈ WB ∨ v ∈ AD := at_of (by decide +kernel) (by decide +kernel)
theorem fo_RX10_215 : FOK WB RX10 215 8 1 := ⟨RX8, TX8, 11, "RuleForge$Terms", rfl, uw_8, by decide, (wb_1 104 rfl rfl), Or.inl rfl⟩
theorem fo_RX10_237 : FOK WB RX10 237 3 13 := ⟨RX3, TX3, 16, "RuleForge$Matcher", rfl, uw_3, by decide, (wb_2 14 rfl rfl), Or.inl rfl⟩
theorem fo_RX10_240 : FOK WB RX10 240 3 14 := ⟨RX3, TX3, 16, "RuleForge$Matcher", rfl, uw_3, by decide, (wb_2 17 rfl rfl), Or.inl rfl⟩
theorem fo_RX10_247 : FOK WB RX10 247 8 7 := ⟨RX8, TX8, 11, "RuleForge$Terms", rfl, uw_8, by decide, (wb_1 116 rfl rfl), Or.inl rfl⟩
theorem fo_RX10_274 : FOK WB RX10 274 6 3 := ⟨RX6, TX6, 10, "RuleForge$Reducer", rfl, uw_6, by decide, (wb_2 67 rfl rfl), Or.inl rfl⟩
theorem po_RX10_0_6_3_0 : POK RX10 false 6 3 0 := ⟨RX6, TX6, 10, tyX6, rfl, tyX6_ok, nmX6, rfl, Or.inl rfl⟩
theorem ac_int : Jvm.Cond.arrayClass (newarray.typeOf .int) ∈ WB := (wb_1 87 rfl rfl)
theorem ac_boolean : Jvm.Cond.arrayClass (newarray.typeOf .boolean) ∈ WB := (wb_1 170 rfl rfl)
theorem ac_long : Jvm.Cond.arrayClass (newarray.typeOf .long) ∈ WB := (wb_3 2 rfl rfl)
theorem ob_1 : Jvm.Cond.instanceMethod objectInit ∈ WB := (wb_1 27 rfl rfl)
theorem ob_2 : Jvm.Cond.code objectInit ⟨#[0xb1]⟩ 1 none ∈ WB := (wb_1 28 rfl rfl)
theorem cp_1 : Jvm.Cond.native arraycopyName ∈ WB := (wb_3 197 rfl rfl)
theorem cp_2 : Jvm.Cond.static arraycopyName ∈ WB := (wb_3 196 rfl rfl)
theorem cp_3 : Jvm.Cond.initialized "java/lang/System" ∈ WB := (wb_1 19 rfl rfl)
theorem tb_L_law : TB[0]? = some (md_L_law, tl_L_law) := rfl
theorem ho_L_law : HOK WB md_L_law := fun _ h => absurd h List.not_mem_nil
theorem tb_J7_fill_53178 : TB[1]? = some (md_J7_fill_53178, tl_J7_fill_53178) := rfl
theorem pr_J7_fill_53178 : (parseMethodDescriptor (mY md_J7_fill_53178).desc).map (fun d => d.parameters.length) = some (mN md_J7_fill_53178) := by decide +kernel
theorem st_J7_fill_53178 : Jvm.Cond.static (mY md_J7_fill_53178) ∈ WB := (wb_1 36 rfl rfl)
theorem ho_J7_fill_53178 : HOK WB md_J7_fill_53178 := fun _ h => absurd h List.not_mem_nil
theorem mo_J7_fill_53178 : MOK WB md_J7_fill_53178 := ⟨by decide, (wb_1 37 rfl rfl), (wb_1 3 rfl rfl), by decide +kernel, ⟨by decide +kernel, by decide +kernel⟩, rfl, (fun h => by cases h), by decide, ho_J7_fill_53178⟩
theorem tb_X8_end : TB[2]? = some (md_X8_end, tl_X8_end) := rfl
theorem pr_X8_end : (parseMethodDescriptor (mY md_X8_end).desc).map (fun d => d.parameters.length) = some (mN md_X8_end - 1) := by decide +kernel
theorem in_X8_end : Jvm.Cond.instanceMethod (mY md_X8_end) ∈ WB := (wb_3 192 rfl rfl)
theorem se_X8_end : Jvm.Cond.selects (mY md_X8_end).cls (mY md_X8_end) (mY md_X8_end) ∈ WB := (wb_3 193 rfl rfl)
theorem ho_X8_end : HOK WB md_X8_end := fun _ h => absurd h List.not_mem_nil
theorem mo_X8_end : MOK WB md_X8_end := ⟨by decide, (wb_3 194 rfl rfl), (wb_1 4 rfl rfl), by decide +kernel, ⟨by decide +kernel, by decide +kernel⟩, rfl, (fun h => by cases h), by decide, ho_X8_end⟩
theorem tb_X8_putOn : TB[3]? = some (md_X8_putOn, tl_X8_putOn) := rfl
theorem pr_X8_putOn : (parseMethodDescriptor (mY md_X8_putOn).desc).map (fun d => d.parameters.length) = some (mN md_X8_putOn - 1) := by decide +kernel
theorem in_X8_putOn : Jvm.Cond.instanceMethod (mY md_X8_putOn) ∈ WB := (wb_3 218 rfl rfl)
theorem se_X8_putOn : Jvm.Cond.selects (mY md_X8_putOn).cls (mY md_X8_putOn) (mY md_X8_putOn) ∈ WB := (wb_3 219 rfl rfl)
theorem ho_X8_putOn : HOK WB md_X8_putOn := fun _ h => absurd h List.not_mem_nil
theorem mo_X8_putOn : MOK WB md_X8_putOn := ⟨by decide, (wb_3 220 rfl rfl), (wb_1 4 rfl rfl), by decide +kernel, ⟨by decide +kernel, by decide +kernel⟩, rfl, (fun h => by cases h), by decide, ho_X8_putOn⟩
theorem tb_X7_addDeclaration : TB[4]? = some (md_X7_addDeclaration, tl_X7_addDeclaration) := rfl
theorem pr_X7_addDeclaration : (parseMethodDescriptor (mY md_X7_addDeclaration).desc).map (fun d => d.parameters.length) = some (mN md_X7_addDeclaration - 1) := by decide +kernel
theorem in_X7_addDeclaration : Jvm.Cond.instanceMethod (mY md_X7_addDeclaration) ∈ WB := (wb_3 168 rfl rfl)
theorem se_X7_addDeclaration : Jvm.Cond.selects (mY md_X7_addDeclaration).cls (mY md_X7_addDeclaration) (mY md_X7_addDeclaration) ∈ WB := (wb_3 169 rfl rfl)
theorem ho_X7_addDeclaration : HOK WB md_X7_addDeclaration := fun _ h => absurd h List.not_mem_nil
theorem mo_X7_addDeclaration : MOK WB md_X7_addDeclaration := ⟨by decide, (wb_3 170 rfl rfl), (wb_1 2 rfl rfl), by decide +kernel, ⟨by decide +kernel, by decide +kernel⟩, rfl, (fun h => by cases h), by decide, ho_X7_addDeclaration⟩
theorem tb_X10_declare : TB[5]? = some (md_X10_declare, tl_X10_declare) := rfl
theorem pr_X10_declare : (parseMethodDescriptor (mY md_X10_declare).desc).map (fun d => d.parameters.length) = some (mN md_X10_declare - 1) := by decide +kernel
theorem in_X10_declare : Jvm.Cond.instanceMethod (mY md_X10_declare) ∈ WB := (wb_3 153 rfl rfl)
theorem se_X10_declare : Jvm.Cond.selects (mY md_X10_declare).cls (mY md_X10_declare) (mY md_X10_declare) ∈ WB := (wb_3 154 rfl rfl)
theorem ho_X10_declare : HOK WB md_X10_declare := fun _ h => absurd h List.not_mem_nil
theorem mo_X10_declare : MOK WB md_X10_declare := ⟨by decide, (wb_3 155 rfl rfl), (wb_1 1 rfl rfl), by decide +kernel, ⟨by decide +kernel, by decide +kernel⟩, rfl, (fun h => by cases h), by decide, ho_X10_declare⟩
theorem tb_X8_write : TB[6]? = some (md_X8_write, tl_X8_write) := rfl
theorem pr_X8_write : (parseMethodDescriptor (mY md_X8_write).desc).map (fun d => d.parameters.length) = some (mN md_X8_write - 1) := by decide +kernel
theorem in_X8_write : Jvm.Cond.instanceMethod (mY md_X8_write) ∈ WB := (wb_3 227 rfl rfl)
theorem se_X8_write : Jvm.Cond.selects (mY md_X8_write).cls (mY md_X8_write) (mY md_X8_write) ∈ WB := (wb_0 2 rfl rfl)
theorem ho_X8_write : HOK WB md_X8_write := fun _ h => absurd h List.not_mem_nil
theorem mo_X8_write : MOK WB md_X8_write := ⟨by decide, (wb_3 228 rfl rfl), (wb_1 4 rfl rfl), by decide +kernel, ⟨by decide +kernel, by decide +kernel⟩, rfl, (fun h => by cases h), by decide, ho_X8_write⟩
theorem tb_X8_variablesAt : TB[7]? = some (md_X8_variablesAt, tl_X8_variablesAt) := rfl
theorem pr_X8_variablesAt : (parseMethodDescriptor (mY md_X8_variablesAt).desc).map (fun d => d.parameters.length) = some (mN md_X8_variablesAt - 1) := by decide +kernel
theorem in_X8_variablesAt : Jvm.Cond.instanceMethod (mY md_X8_variablesAt) ∈ WB := (wb_4 29 rfl rfl)
theorem se_X8_variablesAt : Jvm.Cond.selects (mY md_X8_variablesAt).cls (mY md_X8_variablesAt) (mY md_X8_variablesAt) ∈ WB := (wb_4 30 rfl rfl)
theorem ho_X8_variablesAt : HOK WB md_X8_variablesAt := fun _ h => absurd h List.not_mem_nil
theorem mo_X8_variablesAt : MOK WB md_X8_variablesAt := ⟨by decide, (wb_4 31 rfl rfl), (wb_1 4 rfl rfl), by decide +kernel, ⟨by decide +kernel, by decide +kernel⟩, rfl, (fun h => by cases h), by decide, ho_X8_variablesAt⟩
theorem tb_X10_operator : TB[8]? = some (md_X10_operator, tl_X10_operator) := rfl
theorem pr_X10_operator : (parseMethodDescriptor (mY md_X10_operator).desc).map (fun d => d.parameters.length) = some (mN md_X10_operator - 1) := by decide +kernel
theorem in_X10_operator : Jvm.Cond.instanceMethod (mY md_X10_operator) ∈ WB := (wb_3 106 rfl rfl)
theorem se_X10_operator : Jvm.Cond.selects (mY md_X10_operator).cls (mY md_X10_operator) (mY md_X10_operator) ∈ WB := (wb_3 107 rfl rfl)
theorem ho_X10_operator : HOK WB md_X10_operator := fun _ h => absurd h List.not_mem_nil
theorem mo_X10_operator : MOK WB md_X10_operator := ⟨by decide, (wb_3 108 rfl rfl), (wb_1 1 rfl rfl), by decide +kernel, ⟨by decide +kernel, by decide +kernel⟩, rfl, (fun h => by cases h), by decide, ho_X10_operator⟩
theorem tb_X10_apply : TB[9]? = some (md_X10_apply, tl_X10_apply) := rfl
theorem pr_X10_apply : (parseMethodDescriptor (mY md_X10_apply).desc).map (fun d => d.parameters.length) = some (mN md_X10_apply - 1) := by decide +kernel
theorem in_X10_apply : Jvm.Cond.instanceMethod (mY md_X10_apply) ∈ WB := (wb_3 199 rfl rfl)
theorem se_X10_apply : Jvm.Cond.selects (mY md_X10_apply).cls (mY md_X10_apply) (mY md_X10_apply) ∈ WB := (wb_3 200 rfl rfl)
theorem ho_X10_apply : HOK WB md_X10_apply := fun _ h => absurd h List.not_mem_nil
theorem mo_X10_apply : MOK WB md_X10_apply := ⟨by decide, (wb_3 201 rfl rfl), (wb_1 1 rfl rfl), by decide +kernel, ⟨by decide +kernel, by decide +kernel⟩, rfl, (fun h => by cases h), by decide, ho_X10_apply⟩
theorem tb_X7_addOperator : TB[10]? = some (md_X7_addOperator, tl_X7_addOperator) := rfl
theorem pr_X7_addOperator : (parseMethodDescriptor (mY md_X7_addOperator).desc).map (fun d => d.parameters.length) = some (mN md_X7_addOperator - 1) := by decide +kernel
theorem in_X7_addOperator : Jvm.Cond.instanceMethod (mY md_X7_addOperator) ∈ WB := (wb_3 149 rfl rfl)
theorem se_X7_addOperator : Jvm.Cond.selects (mY md_X7_addOperator).cls (mY md_X7_addOperator) (mY md_X7_addOperator) ∈ WB := (wb_3 150 rfl rfl)
theorem ho_X7_addOperator : HOK WB md_X7_addOperator := fun _ h => absurd h List.not_mem_nil
theorem mo_X7_addOperator : MOK WB md_X7_addOperator := ⟨by decide, (wb_3 151 rfl rfl), (wb_1 2 rfl rfl), by decide +kernel, ⟨by decide +kernel, by decide +kernel⟩, rfl, (fun h => by cases h), by decide, ho_X7_addOperator⟩
theorem tb_X8_init : TB[11]? = some (md_X8_init, tl_X8_init) := rfl
theorem pr_X8_init : (parseMethodDescriptor (mY md_X8_init).desc).map (fun d => d.parameters.length) = some (mN md_X8_init - 1) := by decide +kernel
theorem in_X8_init : Jvm.Cond.instanceMethod (mY md_X8_init) ∈ WB := (wb_1 91 rfl rfl)
theorem ho_X8_init : HOK WB md_X8_init := fun _ h => absurd h List.not_mem_nil
theorem mo_X8_init : MOK WB md_X8_init := ⟨by decide, (wb_1 92 rfl rfl), (wb_1 4 rfl rfl), by decide +kernel, ⟨by decide +kernel, by decide +kernel⟩, rfl, (fun _ => rfl), by decide, ho_X8_init⟩
theorem tb_X7_hasSort : TB[12]? = some (md_X7_hasSort, tl_X7_hasSort) := rfl
theorem pr_X7_hasSort : (parseMethodDescriptor (mY md_X7_hasSort).desc).map (fun d => d.parameters.length) = some (mN md_X7_hasSort - 1) := by decide +kernel
theorem in_X7_hasSort : Jvm.Cond.instanceMethod (mY md_X7_hasSort) ∈ WB := (wb_3 157 rfl rfl)
theorem se_X7_hasSort : Jvm.Cond.selects (mY md_X7_hasSort).cls (mY md_X7_hasSort) (mY md_X7_hasSort) ∈ WB := (wb_3 158 rfl rfl)
theorem ho_X7_hasSort : HOK WB md_X7_hasSort := fun _ h => absurd h List.not_mem_nil
theorem mo_X7_hasSort : MOK WB md_X7_hasSort := ⟨by decide, (wb_3 159 rfl rfl), (wb_1 2 rfl rfl), by decide +kernel, ⟨by decide +kernel, by decide +kernel⟩, rfl, (fun h => by cases h), by decide, ho_X7_hasSort⟩
theorem tb_X10_tell : TB[13]? = some (md_X10_tell, tl_X10_tell) := rfl
theorem pr_X10_tell : (parseMethodDescriptor (mY md_X10_tell).desc).map (fun d => d.parameters.length) = some (mN md_X10_tell - 1) := by decide +kernel
theorem in_X10_tell : Jvm.Cond.instanceMethod (mY md_X10_tell) ∈ WB := (wb_4 16 rfl rfl)
theorem se_X10_tell : Jvm.Cond.selects (mY md_X10_tell).cls (mY md_X10_tell) (mY md_X10_tell) ∈ WB := (wb_4 17 rfl rfl)
theorem ho_X10_tell : HOK WB md_X10_tell := fun _ h => absurd h List.not_mem_nil
theorem mo_X10_tell : MOK WB md_X10_tell := ⟨by decide, (wb_4 18 rfl rfl), (wb_1 1 rfl rfl), by decide +kernel, ⟨by decide +kernel, by decide +kernel⟩, rfl, (fun h => by cases h), by decide, ho_X10_tell⟩
theorem tb_X8_store : TB[14]? = some (md_X8_store, tl_X8_store) := rfl
theorem pr_X8_store : (parseMethodDescriptor (mY md_X8_store).desc).map (fun d => d.parameters.length) = some (mN md_X8_store - 1) := by decide +kernel
theorem in_X8_store : Jvm.Cond.instanceMethod (mY md_X8_store) ∈ WB := (wb_3 188 rfl rfl)
theorem se_X8_store : Jvm.Cond.selects (mY md_X8_store).cls (mY md_X8_store) (mY md_X8_store) ∈ WB := (wb_3 189 rfl rfl)
theorem ho_X8_store : HOK WB md_X8_store := fun _ h => absurd h List.not_mem_nil
theorem mo_X8_store : MOK WB md_X8_store := ⟨by decide, (wb_3 190 rfl rfl), (wb_1 4 rfl rfl), by decide +kernel, ⟨by decide +kernel, by decide +kernel⟩, rfl, (fun h => by cases h), by decide, ho_X8_store⟩
theorem tb_X10_push : TB[15]? = some (md_X10_push, tl_X10_push) := rfl
theorem pr_X10_push : (parseMethodDescriptor (mY md_X10_push).desc).map (fun d => d.parameters.length) = some (mN md_X10_push - 1) := by decide +kernel
theorem in_X10_push : Jvm.Cond.instanceMethod (mY md_X10_push) ∈ WB := (wb_3 182 rfl rfl)
theorem se_X10_push : Jvm.Cond.selects (mY md_X10_push).cls (mY md_X10_push) (mY md_X10_push) ∈ WB := (wb_0 1 rfl rfl)
theorem ho_X10_push : HOK WB md_X10_push := fun _ h => absurd h List.not_mem_nil
theorem mo_X10_push : MOK WB md_X10_push := ⟨by decide, (wb_3 183 rfl rfl), (wb_1 1 rfl rfl), by decide +kernel, ⟨by decide +kernel, by decide +kernel⟩, rfl, (fun h => by cases h), by decide, ho_X10_push⟩
theorem tb_X7_hasOperator : TB[16]? = some (md_X7_hasOperator, tl_X7_hasOperator) := rfl
theorem pr_X7_hasOperator : (parseMethodDescriptor (mY md_X7_hasOperator).desc).map (fun d => d.parameters.length) = some (mN md_X7_hasOperator - 1) := by decide +kernel
theorem in_X7_hasOperator : Jvm.Cond.instanceMethod (mY md_X7_hasOperator) ∈ WB := (wb_3 110 rfl rfl)
theorem se_X7_hasOperator : Jvm.Cond.selects (mY md_X7_hasOperator).cls (mY md_X7_hasOperator) (mY md_X7_hasOperator) ∈ WB := (wb_3 111 rfl rfl)
theorem ho_X7_hasOperator : HOK WB md_X7_hasOperator := fun _ h => absurd h List.not_mem_nil
theorem mo_X7_hasOperator : MOK WB md_X7_hasOperator := ⟨by decide, (wb_3 112 rfl rfl), (wb_1 2 rfl rfl), by decide +kernel, ⟨by decide +kernel, by decide +kernel⟩, rfl, (fun h => by cases h), by decide, ho_X7_hasOperator⟩
theorem tb_X10_stackAt : TB[17]? = some (md_X10_stackAt, tl_X10_stackAt) := rfl
theorem pr_X10_stackAt : (parseMethodDescriptor (mY md_X10_stackAt).desc).map (fun d => d.parameters.length) = some (mN md_X10_stackAt) := by decide +kernel
theorem st_X10_stackAt : Jvm.Cond.static (mY md_X10_stackAt) ∈ WB := (wb_3 185 rfl rfl)
theorem ho_X10_stackAt : HOK WB md_X10_stackAt := fun _ h => absurd h List.not_mem_nil
theorem mo_X10_stackAt : MOK WB md_X10_stackAt := ⟨by decide, (wb_3 186 rfl rfl), (wb_1 1 rfl rfl), by decide +kernel, ⟨by decide +kernel, by decide +kernel⟩, rfl, (fun h => by cases h), by decide, ho_X10_stackAt⟩
theorem tb_X7_init : TB[18]? = some (md_X7_init, tl_X7_init) := rfl
theorem pr_X7_init : (parseMethodDescriptor (mY md_X7_init).desc).map (fun d => d.parameters.length) = some (mN md_X7_init - 1) := by decide +kernel
theorem in_X7_init : Jvm.Cond.instanceMethod (mY md_X7_init) ∈ WB := (wb_1 32 rfl rfl)
theorem ho_X7_init : HOK WB md_X7_init := fun _ h => absurd h List.not_mem_nil
theorem mo_X7_init : MOK WB md_X7_init := ⟨by decide, (wb_1 33 rfl rfl), (wb_1 2 rfl rfl), by decide +kernel, ⟨by decide +kernel, by decide +kernel⟩, rfl, (fun _ => rfl), by decide, ho_X7_init⟩
theorem tb_X8_await : TB[19]? = some (md_X8_await, tl_X8_await) := rfl
theorem pr_X8_await : (parseMethodDescriptor (mY md_X8_await).desc).map (fun d => d.parameters.length) = some (mN md_X8_await - 1) := by decide +kernel
theorem in_X8_await : Jvm.Cond.instanceMethod (mY md_X8_await) ∈ WB := (wb_3 214 rfl rfl)
theorem se_X8_await : Jvm.Cond.selects (mY md_X8_await).cls (mY md_X8_await) (mY md_X8_await) ∈ WB := (wb_3 215 rfl rfl)
theorem ho_X8_await : HOK WB md_X8_await := fun _ h => absurd h List.not_mem_nil
theorem mo_X8_await : MOK WB md_X8_await := ⟨by decide, (wb_3 216 rfl rfl), (wb_1 4 rfl rfl), by decide +kernel, ⟨by decide +kernel, by decide +kernel⟩, rfl, (fun h => by cases h), by decide, ho_X8_await⟩
theorem tb_X2_areTold : TB[20]? = some (md_X2_areTold, tl_X2_areTold) := rfl
theorem pr_X2_areTold : (parseMethodDescriptor (mY md_X2_areTold).desc).map (fun d => d.parameters.length) = some (mN md_X2_areTold - 1) := by decide +kernel
theorem in_X2_areTold : Jvm.Cond.instanceMethod (mY md_X2_areTold) ∈ WB := (wb_3 163 rfl rfl)
theorem se_X2_areTold : Jvm.Cond.selects (mY md_X2_areTold).cls (mY md_X2_areTold) (mY md_X2_areTold) ∈ WB := (wb_3 164 rfl rfl)
theorem ho_X2_areTold : HOK WB md_X2_areTold := fun _ h => absurd h List.not_mem_nil
theorem mo_X2_areTold : MOK WB md_X2_areTold := ⟨by decide, (wb_3 165 rfl rfl), (wb_1 5 rfl rfl), by decide +kernel, ⟨by decide +kernel, by decide +kernel⟩, rfl, (fun h => by cases h), by decide, ho_X2_areTold⟩
theorem tb_X8_startAnew : TB[21]? = some (md_X8_startAnew, tl_X8_startAnew) := rfl
theorem pr_X8_startAnew : (parseMethodDescriptor (mY md_X8_startAnew).desc).map (fun d => d.parameters.length) = some (mN md_X8_startAnew - 1) := by decide +kernel
theorem in_X8_startAnew : Jvm.Cond.instanceMethod (mY md_X8_startAnew) ∈ WB := (wb_3 205 rfl rfl)
theorem se_X8_startAnew : Jvm.Cond.selects (mY md_X8_startAnew).cls (mY md_X8_startAnew) (mY md_X8_startAnew) ∈ WB := (wb_3 206 rfl rfl)
theorem ho_X8_startAnew : HOK WB md_X8_startAnew := fun _ h => absurd h List.not_mem_nil
theorem mo_X8_startAnew : MOK WB md_X8_startAnew := ⟨by decide, (wb_3 207 rfl rfl), (wb_1 4 rfl rfl), by decide +kernel, ⟨by decide +kernel, by decide +kernel⟩, rfl, (fun h => by cases h), by decide, ho_X8_startAnew⟩
theorem tb_J6_bitCount_0f7a4 : TB[22]? = some (md_J6_bitCount_0f7a4, tl_J6_bitCount_0f7a4) := rfl
theorem pr_J6_bitCount_0f7a4 : (parseMethodDescriptor (mY md_J6_bitCount_0f7a4).desc).map (fun d => d.parameters.length) = some (mN md_J6_bitCount_0f7a4) := by decide +kernel
theorem st_J6_bitCount_0f7a4 : Jvm.Cond.static (mY md_J6_bitCount_0f7a4) ∈ WB := (wb_4 33 rfl rfl)
theorem ho_J6_bitCount_0f7a4 : HOK WB md_J6_bitCount_0f7a4 := fun _ h => absurd h List.not_mem_nil
theorem mo_J6_bitCount_0f7a4 : MOK WB md_J6_bitCount_0f7a4 := ⟨by decide, (wb_4 34 rfl rfl), (wb_1 20 rfl rfl), by decide +kernel, ⟨by decide +kernel, by decide +kernel⟩, rfl, (fun h => by cases h), by decide, ho_J6_bitCount_0f7a4⟩
theorem tb_X10_term : TB[23]? = some (md_X10_term, tl_X10_term) := rfl
theorem pr_X10_term : (parseMethodDescriptor (mY md_X10_term).desc).map (fun d => d.parameters.length) = some (mN md_X10_term - 1) := by decide +kernel
theorem in_X10_term : Jvm.Cond.instanceMethod (mY md_X10_term) ∈ WB := (wb_3 172 rfl rfl)
theorem se_X10_term : Jvm.Cond.selects (mY md_X10_term).cls (mY md_X10_term) (mY md_X10_term) ∈ WB := (wb_3 173 rfl rfl)
theorem ho_X10_term : HOK WB md_X10_term := fun _ h => absurd h List.not_mem_nil
theorem mo_X10_term : MOK WB md_X10_term := ⟨by decide, (wb_3 174 rfl rfl), (wb_1 1 rfl rfl), by decide +kernel, ⟨by decide +kernel, by decide +kernel⟩, rfl, (fun h => by cases h), by decide, ho_X10_term⟩
theorem tb_X10_init : TB[24]? = some (md_X10_init, tl_X10_init) := rfl
theorem pr_X10_init : (parseMethodDescriptor (mY md_X10_init).desc).map (fun d => d.parameters.length) = some (mN md_X10_init - 1) := by decide +kernel
theorem in_X10_init : Jvm.Cond.instanceMethod (mY md_X10_init) ∈ WB := (wb_1 24 rfl rfl)
theorem ho_X10_init : HOK WB md_X10_init := fun _ h => absurd h List.not_mem_nil
theorem mo_X10_init : MOK WB md_X10_init := ⟨by decide, (wb_1 25 rfl rfl), (wb_1 1 rfl rfl), by decide +kernel, ⟨by decide +kernel, by decide +kernel⟩, rfl, (fun _ => rfl), by decide, ho_X10_init⟩
theorem tb_X2_add : TB[25]? = some (md_X2_add, tl_X2_add) := rfl
theorem pr_X2_add : (parseMethodDescriptor (mY md_X2_add).desc).map (fun d => d.parameters.length) = some (mN md_X2_add - 1) := by decide +kernel
theorem in_X2_add : Jvm.Cond.instanceMethod (mY md_X2_add) ∈ WB := (wb_4 47 rfl rfl)
theorem se_X2_add : Jvm.Cond.selects (mY md_X2_add).cls (mY md_X2_add) (mY md_X2_add) ∈ WB := (wb_4 48 rfl rfl)
theorem ho_X2_add : HOK WB md_X2_add := fun _ h => absurd h List.not_mem_nil
theorem mo_X2_add : MOK WB md_X2_add := ⟨by decide, (wb_4 49 rfl rfl), (wb_1 5 rfl rfl), by decide +kernel, ⟨by decide +kernel, by decide +kernel⟩, rfl, (fun h => by cases h), by decide, ho_X2_add⟩
theorem tb_X4_init : TB[26]? = some (md_X4_init, tl_X4_init) := rfl
theorem pr_X4_init : (parseMethodDescriptor (mY md_X4_init).desc).map (fun d => d.parameters.length) = some (mN md_X4_init - 1) := by decide +kernel
theorem in_X4_init : Jvm.Cond.instanceMethod (mY md_X4_init) ∈ WB := (wb_1 180 rfl rfl)
theorem ho_X4_init : HOK WB md_X4_init := fun _ h => absurd h List.not_mem_nil
theorem mo_X4_init : MOK WB md_X4_init := ⟨by decide, (wb_1 181 rfl rfl), (wb_1 7 rfl rfl), by decide +kernel, ⟨by decide +kernel, by decide +kernel⟩, rfl, (fun _ => rfl), by decide, ho_X4_init⟩
theorem tb_X3_init : TB[27]? = some (md_X3_init, tl_X3_init) := rfl
theorem pr_X3_init : (parseMethodDescriptor (mY md_X3_init).desc).map (fun d => d.parameters.length) = some (mN md_X3_init - 1) := by decide +kernel
theorem in_X3_init : Jvm.Cond.instanceMethod (mY md_X3_init) ∈ WB := (wb_1 174 rfl rfl)
theorem ho_X3_init : HOK WB md_X3_init := fun _ h => absurd h List.not_mem_nil
theorem mo_X3_init : MOK WB md_X3_init := ⟨by decide, (wb_1 175 rfl rfl), (wb_1 6 rfl rfl), by decide +kernel, ⟨by decide +kernel, by decide +kernel⟩, rfl, (fun _ => rfl), by decide, ho_X3_init⟩
theorem tb_X10_isVariableNumber : TB[28]? = some (md_X10_isVariableNumber, tl_X10_isVariableNumber) := rfl
theorem pr_X10_isVariableNumber : (parseMethodDescriptor (mY md_X10_isVariableNumber).desc).map (fun d => d.parameters.length) = some (mN md_X10_isVariableNumber) := by decide +kernel
theorem st_X10_isVariableNumber : Jvm.Cond.static (mY md_X10_isVariableNumber) ∈ WB := (wb_3 176 rfl rfl)
theorem ho_X10_isVariableNumber : HOK WB md_X10_isVariableNumber := fun _ h => absurd h List.not_mem_nil
theorem mo_X10_isVariableNumber : MOK WB md_X10_isVariableNumber := ⟨by decide, (wb_3 177 rfl rfl), (wb_1 1 rfl rfl), by decide +kernel, ⟨by decide +kernel, by decide +kernel⟩, rfl, (fun h => by cases h), by decide, ho_X10_isVariableNumber⟩
theorem tb_X2_partAt : TB[29]? = some (md_X2_partAt, tl_X2_partAt) := rfl
theorem pr_X2_partAt : (parseMethodDescriptor (mY md_X2_partAt).desc).map (fun d => d.parameters.length) = some (mN md_X2_partAt - 1) := by decide +kernel
theorem in_X2_partAt : Jvm.Cond.instanceMethod (mY md_X2_partAt) ∈ WB := (wb_4 43 rfl rfl)
theorem se_X2_partAt : Jvm.Cond.selects (mY md_X2_partAt).cls (mY md_X2_partAt) (mY md_X2_partAt) ∈ WB := (wb_4 44 rfl rfl)
theorem ho_X2_partAt : HOK WB md_X2_partAt := fun _ h => absurd h List.not_mem_nil
theorem mo_X2_partAt : MOK WB md_X2_partAt := ⟨by decide, (wb_4 45 rfl rfl), (wb_1 5 rfl rfl), by decide +kernel, ⟨by decide +kernel, by decide +kernel⟩, rfl, (fun h => by cases h), by decide, ho_X2_partAt⟩
theorem tb_X0_init : TB[30]? = some (md_X0_init, tl_X0_init) := rfl
theorem pr_X0_init : (parseMethodDescriptor (mY md_X0_init).desc).map (fun d => d.parameters.length) = some (mN md_X0_init - 1) := by decide +kernel
theorem in_X0_init : Jvm.Cond.instanceMethod (mY md_X0_init) ∈ WB := (wb_2 201 rfl rfl)
theorem ho_X0_init : HOK WB md_X0_init := fun _ h => absurd h List.not_mem_nil
theorem mo_X0_init : MOK WB md_X0_init := ⟨by decide, (wb_2 202 rfl rfl), (wb_1 12 rfl rfl), by decide +kernel, ⟨by decide +kernel, by decide +kernel⟩, rfl, (fun _ => rfl), by decide, ho_X0_init⟩
theorem tb_X6_init : TB[31]? = some (md_X6_init, tl_X6_init) := rfl
theorem pr_X6_init : (parseMethodDescriptor (mY md_X6_init).desc).map (fun d => d.parameters.length) = some (mN md_X6_init - 1) := by decide +kernel
theorem in_X6_init : Jvm.Cond.instanceMethod (mY md_X6_init) ∈ WB := (wb_2 55 rfl rfl)
theorem ho_X6_init : HOK WB md_X6_init := fun _ h => absurd h List.not_mem_nil
theorem mo_X6_init : MOK WB md_X6_init := ⟨by decide, (wb_2 56 rfl rfl), (wb_1 8 rfl rfl), by decide +kernel, ⟨by decide +kernel, by decide +kernel⟩, rfl, (fun _ => rfl), by decide, ho_X6_init⟩
theorem tb_X8_giveNothing : TB[32]? = some (md_X8_giveNothing, tl_X8_giveNothing) := rfl
theorem pr_X8_giveNothing : (parseMethodDescriptor (mY md_X8_giveNothing).desc).map (fun d => d.parameters.length) = some (mN md_X8_giveNothing - 1) := by decide +kernel
theorem in_X8_giveNothing : Jvm.Cond.instanceMethod (mY md_X8_giveNothing) ∈ WB := (wb_3 209 rfl rfl)
theorem se_X8_giveNothing : Jvm.Cond.selects (mY md_X8_giveNothing).cls (mY md_X8_giveNothing) (mY md_X8_giveNothing) ∈ WB := (wb_3 210 rfl rfl)
theorem ho_X8_giveNothing : HOK WB md_X8_giveNothing := fun _ h => absurd h List.not_mem_nil
theorem mo_X8_giveNothing : MOK WB md_X8_giveNothing := ⟨by decide, (wb_3 211 rfl rfl), (wb_1 4 rfl rfl), by decide +kernel, ⟨by decide +kernel, by decide +kernel⟩, rfl, (fun h => by cases h), by decide, ho_X8_giveNothing⟩
theorem tb_X8_canBeLeft : TB[33]? = some (md_X8_canBeLeft, tl_X8_canBeLeft) := rfl
theorem pr_X8_canBeLeft : (parseMethodDescriptor (mY md_X8_canBeLeft).desc).map (fun d => d.parameters.length) = some (mN md_X8_canBeLeft - 1) := by decide +kernel
theorem in_X8_canBeLeft : Jvm.Cond.instanceMethod (mY md_X8_canBeLeft) ∈ WB := (wb_4 21 rfl rfl)
theorem se_X8_canBeLeft : Jvm.Cond.selects (mY md_X8_canBeLeft).cls (mY md_X8_canBeLeft) (mY md_X8_canBeLeft) ∈ WB := (wb_4 22 rfl rfl)
theorem ho_X8_canBeLeft : HOK WB md_X8_canBeLeft := fun _ h => absurd h List.not_mem_nil
theorem mo_X8_canBeLeft : MOK WB md_X8_canBeLeft := ⟨by decide, (wb_4 23 rfl rfl), (wb_1 4 rfl rfl), by decide +kernel, ⟨by decide +kernel, by decide +kernel⟩, rfl, (fun h => by cases h), by decide, ho_X8_canBeLeft⟩
theorem tb_X1_init : TB[34]? = some (md_X1_init, tl_X1_init) := rfl
theorem pr_X1_init : (parseMethodDescriptor (mY md_X1_init).desc).map (fun d => d.parameters.length) = some (mN md_X1_init - 1) := by decide +kernel
theorem in_X1_init : Jvm.Cond.instanceMethod (mY md_X1_init) ∈ WB := (wb_2 141 rfl rfl)
theorem ho_X1_init : HOK WB md_X1_init := fun _ h => absurd h List.not_mem_nil
theorem mo_X1_init : MOK WB md_X1_init := ⟨by decide, (wb_2 142 rfl rfl), (wb_1 10 rfl rfl), by decide +kernel, ⟨by decide +kernel, by decide +kernel⟩, rfl, (fun _ => rfl), by decide, ho_X1_init⟩
theorem tb_X5_init : TB[35]? = some (md_X5_init, tl_X5_init) := rfl
theorem pr_X5_init : (parseMethodDescriptor (mY md_X5_init).desc).map (fun d => d.parameters.length) = some (mN md_X5_init - 1) := by decide +kernel
theorem in_X5_init : Jvm.Cond.instanceMethod (mY md_X5_init) ∈ WB := (wb_2 171 rfl rfl)
theorem ho_X5_init : HOK WB md_X5_init := fun _ h => absurd h List.not_mem_nil
theorem mo_X5_init : MOK WB md_X5_init := ⟨by decide, (wb_2 172 rfl rfl), (wb_1 11 rfl rfl), by decide +kernel, ⟨by decide +kernel, by decide +kernel⟩, rfl, (fun _ => rfl), by decide, ho_X5_init⟩
theorem tb_X8_canBePattern : TB[36]? = some (md_X8_canBePattern, tl_X8_canBePattern) := rfl
theorem pr_X8_canBePattern : (parseMethodDescriptor (mY md_X8_canBePattern).desc).map (fun d => d.parameters.length) = some (mN md_X8_canBePattern - 1) := by decide +kernel
theorem in_X8_canBePattern : Jvm.Cond.instanceMethod (mY md_X8_canBePattern) ∈ WB := (wb_4 25 rfl rfl)
theorem se_X8_canBePattern : Jvm.Cond.selects (mY md_X8_canBePattern).cls (mY md_X8_canBePattern) (mY md_X8_canBePattern) ∈ WB := (wb_4 26 rfl rfl)
theorem ho_X8_canBePattern : HOK WB md_X8_canBePattern := fun _ h => absurd h List.not_mem_nil
theorem mo_X8_canBePattern : MOK WB md_X8_canBePattern := ⟨by decide, (wb_4 27 rfl rfl), (wb_1 4 rfl rfl), by decide +kernel, ⟨by decide +kernel, by decide +kernel⟩, rfl, (fun h => by cases h), by decide, ho_X8_canBePattern⟩
theorem tb_X9_init : TB[37]? = some (md_X9_init, tl_X9_init) := rfl
theorem pr_X9_init : (parseMethodDescriptor (mY md_X9_init).desc).map (fun d => d.parameters.length) = some (mN md_X9_init - 1) := by decide +kernel
theorem in_X9_init : Jvm.Cond.instanceMethod (mY md_X9_init) ∈ WB := (wb_2 98 rfl rfl)
theorem ho_X9_init : HOK WB md_X9_init := fun _ h => absurd h List.not_mem_nil
theorem mo_X9_init : MOK WB md_X9_init := ⟨by decide, (wb_2 99 rfl rfl), (wb_1 9 rfl rfl), by decide +kernel, ⟨by decide +kernel, by decide +kernel⟩, rfl, (fun _ => rfl), by decide, ho_X9_init⟩
theorem tb_X10_sort : TB[38]? = some (md_X10_sort, tl_X10_sort) := rfl
theorem pr_X10_sort : (parseMethodDescriptor (mY md_X10_sort).desc).map (fun d => d.parameters.length) = some (mN md_X10_sort - 1) := by decide +kernel
theorem in_X10_sort : Jvm.Cond.instanceMethod (mY md_X10_sort) ∈ WB := (wb_3 34 rfl rfl)
theorem se_X10_sort : Jvm.Cond.selects (mY md_X10_sort).cls (mY md_X10_sort) (mY md_X10_sort) ∈ WB := (wb_3 35 rfl rfl)
theorem ho_X10_sort : HOK WB md_X10_sort := fun _ h => absurd h List.not_mem_nil
theorem mo_X10_sort : MOK WB md_X10_sort := ⟨by decide, (wb_3 36 rfl rfl), (wb_1 1 rfl rfl), by decide +kernel, ⟨by decide +kernel, by decide +kernel⟩, rfl, (fun h => by cases h), by decide, ho_X10_sort⟩
theorem tb_X2_init : TB[39]? = some (md_X2_init, tl_X2_init) := rfl
theorem pr_X2_init : (parseMethodDescriptor (mY md_X2_init).desc).map (fun d => d.parameters.length) = some (mN md_X2_init - 1) := by decide +kernel
theorem in_X2_init : Jvm.Cond.instanceMethod (mY md_X2_init) ∈ WB := (wb_1 146 rfl rfl)
theorem ho_X2_init : HOK WB md_X2_init := fun _ h => absurd h List.not_mem_nil
theorem mo_X2_init : MOK WB md_X2_init := ⟨by decide, (wb_1 147 rfl rfl), (wb_1 5 rfl rfl), by decide +kernel, ⟨by decide +kernel, by decide +kernel⟩, rfl, (fun _ => rfl), by decide, ho_X2_init⟩
theorem tb_X10_drop : TB[40]? = some (md_X10_drop, tl_X10_drop) := rfl
theorem pr_X10_drop : (parseMethodDescriptor (mY md_X10_drop).desc).map (fun d => d.parameters.length) = some (mN md_X10_drop - 1) := by decide +kernel
theorem in_X10_drop : Jvm.Cond.instanceMethod (mY md_X10_drop) ∈ WB := (wb_3 231 rfl rfl)
theorem se_X10_drop : Jvm.Cond.selects (mY md_X10_drop).cls (mY md_X10_drop) (mY md_X10_drop) ∈ WB := (wb_3 232 rfl rfl)
theorem ho_X10_drop : HOK WB md_X10_drop := fun _ h => absurd h List.not_mem_nil
theorem mo_X10_drop : MOK WB md_X10_drop := ⟨by decide, (wb_3 233 rfl rfl), (wb_1 1 rfl rfl), by decide +kernel, ⟨by decide +kernel, by decide +kernel⟩, rfl, (fun h => by cases h), by decide, ho_X10_drop⟩
theorem tb_X10_equations : TB[41]? = some (md_X10_equations, tl_X10_equations) := rfl
theorem pr_X10_equations : (parseMethodDescriptor (mY md_X10_equations).desc).map (fun d => d.parameters.length) = some (mN md_X10_equations - 1) := by decide +kernel
theorem in_X10_equations : Jvm.Cond.instanceMethod (mY md_X10_equations) ∈ WB := (wb_4 51 rfl rfl)
theorem se_X10_equations : Jvm.Cond.selects (mY md_X10_equations).cls (mY md_X10_equations) (mY md_X10_equations) ∈ WB := (wb_4 52 rfl rfl)
theorem ho_X10_equations : HOK WB md_X10_equations := fun _ h => absurd h List.not_mem_nil
theorem mo_X10_equations : MOK WB md_X10_equations := ⟨by decide, (wb_4 53 rfl rfl), (wb_1 1 rfl rfl), by decide +kernel, ⟨by decide +kernel, by decide +kernel⟩, rfl, (fun h => by cases h), by decide, ho_X10_equations⟩
theorem tb_X2_canFit : TB[42]? = some (md_X2_canFit, tl_X2_canFit) := rfl
theorem pr_X2_canFit : (parseMethodDescriptor (mY md_X2_canFit).desc).map (fun d => d.parameters.length) = some (mN md_X2_canFit - 1) := by decide +kernel
theorem in_X2_canFit : Jvm.Cond.instanceMethod (mY md_X2_canFit) ∈ WB := (wb_4 83 rfl rfl)
theorem se_X2_canFit : Jvm.Cond.selects (mY md_X2_canFit).cls (mY md_X2_canFit) (mY md_X2_canFit) ∈ WB := (wb_4 84 rfl rfl)
theorem ho_X2_canFit : HOK WB md_X2_canFit := fun _ h => absurd h List.not_mem_nil
theorem mo_X2_canFit : MOK WB md_X2_canFit := ⟨by decide, (wb_4 85 rfl rfl), (wb_1 5 rfl rfl), by decide +kernel, ⟨by decide +kernel, by decide +kernel⟩, rfl, (fun h => by cases h), by decide, ho_X2_canFit⟩
theorem tb_X2_argumentFits : TB[43]? = some (md_X2_argumentFits, tl_X2_argumentFits) := rfl
theorem pr_X2_argumentFits : (parseMethodDescriptor (mY md_X2_argumentFits).desc).map (fun d => d.parameters.length) = some (mN md_X2_argumentFits - 1) := by decide +kernel
theorem in_X2_argumentFits : Jvm.Cond.instanceMethod (mY md_X2_argumentFits) ∈ WB := (wb_4 90 rfl rfl)
theorem se_X2_argumentFits : Jvm.Cond.selects (mY md_X2_argumentFits).cls (mY md_X2_argumentFits) (mY md_X2_argumentFits) ∈ WB := (wb_0 10 rfl rfl)
theorem ho_X2_argumentFits : HOK WB md_X2_argumentFits := fun _ h => absurd h List.not_mem_nil
theorem mo_X2_argumentFits : MOK WB md_X2_argumentFits := ⟨by decide, (wb_4 91 rfl rfl), (wb_1 5 rfl rfl), by decide +kernel, ⟨by decide +kernel, by decide +kernel⟩, rfl, (fun h => by cases h), by decide, ho_X2_argumentFits⟩
theorem tb_X3_list : TB[44]? = some (md_X3_list, tl_X3_list) := rfl
theorem pr_X3_list : (parseMethodDescriptor (mY md_X3_list).desc).map (fun d => d.parameters.length) = some (mN md_X3_list - 1) := by decide +kernel
theorem in_X3_list : Jvm.Cond.instanceMethod (mY md_X3_list) ∈ WB := (wb_4 95 rfl rfl)
theorem se_X3_list : Jvm.Cond.selects (mY md_X3_list).cls (mY md_X3_list) (mY md_X3_list) ∈ WB := (wb_4 96 rfl rfl)
theorem ho_X3_list : HOK WB md_X3_list := fun _ h => absurd h List.not_mem_nil
theorem mo_X3_list : MOK WB md_X3_list := ⟨by decide, (wb_4 97 rfl rfl), (wb_1 6 rfl rfl), by decide +kernel, ⟨by decide +kernel, by decide +kernel⟩, rfl, (fun h => by cases h), by decide, ho_X3_list⟩
theorem tb_X3_countByTrying : TB[45]? = some (md_X3_countByTrying, tl_X3_countByTrying) := rfl
theorem pr_X3_countByTrying : (parseMethodDescriptor (mY md_X3_countByTrying).desc).map (fun d => d.parameters.length) = some (mN md_X3_countByTrying - 1) := by decide +kernel
theorem in_X3_countByTrying : Jvm.Cond.instanceMethod (mY md_X3_countByTrying) ∈ WB := (wb_5 25 rfl rfl)
theorem se_X3_countByTrying : Jvm.Cond.selects (mY md_X3_countByTrying).cls (mY md_X3_countByTrying) (mY md_X3_countByTrying) ∈ WB := (wb_5 26 rfl rfl)
theorem ho_X3_countByTrying : HOK WB md_X3_countByTrying := fun _ h => absurd h List.not_mem_nil
theorem mo_X3_countByTrying : MOK WB md_X3_countByTrying := ⟨by decide, (wb_5 27 rfl rfl), (wb_1 6 rfl rfl), by decide +kernel, ⟨by decide +kernel, by decide +kernel⟩, rfl, (fun h => by cases h), by decide, ho_X3_countByTrying⟩
theorem tb_X3_giveWay : TB[46]? = some (md_X3_giveWay, tl_X3_giveWay) := rfl
theorem pr_X3_giveWay : (parseMethodDescriptor (mY md_X3_giveWay).desc).map (fun d => d.parameters.length) = some (mN md_X3_giveWay - 1) := by decide +kernel
theorem in_X3_giveWay : Jvm.Cond.instanceMethod (mY md_X3_giveWay) ∈ WB := (wb_5 30 rfl rfl)
theorem se_X3_giveWay : Jvm.Cond.selects (mY md_X3_giveWay).cls (mY md_X3_giveWay) (mY md_X3_giveWay) ∈ WB := (wb_0 23 rfl rfl)
theorem ho_X3_giveWay : HOK WB md_X3_giveWay := fun _ h => absurd h List.not_mem_nil
theorem mo_X3_giveWay : MOK WB md_X3_giveWay := ⟨by decide, (wb_5 31 rfl rfl), (wb_1 6 rfl rfl), by decide +kernel, ⟨by decide +kernel, by decide +kernel⟩, rfl, (fun h => by cases h), by decide, ho_X3_giveWay⟩
theorem tb_X3_giveMatch : TB[47]? = some (md_X3_giveMatch, tl_X3_giveMatch) := rfl
theorem pr_X3_giveMatch : (parseMethodDescriptor (mY md_X3_giveMatch).desc).map (fun d => d.parameters.length) = some (mN md_X3_giveMatch - 1) := by decide +kernel
theorem in_X3_giveMatch : Jvm.Cond.instanceMethod (mY md_X3_giveMatch) ∈ WB := (wb_4 194 rfl rfl)
theorem se_X3_giveMatch : Jvm.Cond.selects (mY md_X3_giveMatch).cls (mY md_X3_giveMatch) (mY md_X3_giveMatch) ∈ WB := (wb_4 195 rfl rfl)
theorem ho_X3_giveMatch : HOK WB md_X3_giveMatch := fun _ h => absurd h List.not_mem_nil
theorem mo_X3_giveMatch : MOK WB md_X3_giveMatch := ⟨by decide, (wb_4 196 rfl rfl), (wb_1 6 rfl rfl), by decide +kernel, ⟨by decide +kernel, by decide +kernel⟩, rfl, (fun h => by cases h), by decide, ho_X3_giveMatch⟩
theorem tb_X3_addDuty : TB[48]? = some (md_X3_addDuty, tl_X3_addDuty) := rfl
theorem pr_X3_addDuty : (parseMethodDescriptor (mY md_X3_addDuty).desc).map (fun d => d.parameters.length) = some (mN md_X3_addDuty - 1) := by decide +kernel
theorem in_X3_addDuty : Jvm.Cond.instanceMethod (mY md_X3_addDuty) ∈ WB := (wb_4 138 rfl rfl)
theorem se_X3_addDuty : Jvm.Cond.selects (mY md_X3_addDuty).cls (mY md_X3_addDuty) (mY md_X3_addDuty) ∈ WB := (wb_0 13 rfl rfl)
theorem ho_X3_addDuty : HOK WB md_X3_addDuty := fun _ h => absurd h List.not_mem_nil
theorem mo_X3_addDuty : MOK WB md_X3_addDuty := ⟨by decide, (wb_4 139 rfl rfl), (wb_1 6 rfl rfl), by decide +kernel, ⟨by decide +kernel, by decide +kernel⟩, rfl, (fun h => by cases h), by decide, ho_X3_addDuty⟩
theorem tb_X3_solve : TB[49]? = some (md_X3_solve, tl_X3_solve) := rfl
theorem pr_X3_solve : (parseMethodDescriptor (mY md_X3_solve).desc).map (fun d => d.parameters.length) = some (mN md_X3_solve - 1) := by decide +kernel
theorem in_X3_solve : Jvm.Cond.instanceMethod (mY md_X3_solve) ∈ WB := (wb_4 142 rfl rfl)
theorem se_X3_solve : Jvm.Cond.selects (mY md_X3_solve).cls (mY md_X3_solve) (mY md_X3_solve) ∈ WB := (wb_0 14 rfl rfl)
theorem ho_X3_solve : HOK WB md_X3_solve := fun _ h => absurd h List.not_mem_nil
theorem mo_X3_solve : MOK WB md_X3_solve := ⟨by decide, (wb_4 143 rfl rfl), (wb_1 6 rfl rfl), by decide +kernel, ⟨by decide +kernel, by decide +kernel⟩, rfl, (fun h => by cases h), by decide, ho_X3_solve⟩
theorem tb_X3_bind : TB[50]? = some (md_X3_bind, tl_X3_bind) := rfl
theorem pr_X3_bind : (parseMethodDescriptor (mY md_X3_bind).desc).map (fun d => d.parameters.length) = some (mN md_X3_bind - 1) := by decide +kernel
theorem in_X3_bind : Jvm.Cond.instanceMethod (mY md_X3_bind) ∈ WB := (wb_4 166 rfl rfl)
theorem se_X3_bind : Jvm.Cond.selects (mY md_X3_bind).cls (mY md_X3_bind) (mY md_X3_bind) ∈ WB := (wb_0 17 rfl rfl)
theorem ho_X3_bind : HOK WB md_X3_bind := fun _ h => absurd h List.not_mem_nil
theorem mo_X3_bind : MOK WB md_X3_bind := ⟨by decide, (wb_4 167 rfl rfl), (wb_1 6 rfl rfl), by decide +kernel, ⟨by decide +kernel, by decide +kernel⟩, rfl, (fun h => by cases h), by decide, ho_X3_bind⟩
theorem tb_X3_meet : TB[51]? = some (md_X3_meet, tl_X3_meet) := rfl
theorem pr_X3_meet : (parseMethodDescriptor (mY md_X3_meet).desc).map (fun d => d.parameters.length) = some (mN md_X3_meet - 1) := by decide +kernel
theorem in_X3_meet : Jvm.Cond.instanceMethod (mY md_X3_meet) ∈ WB := (wb_4 174 rfl rfl)
theorem se_X3_meet : Jvm.Cond.selects (mY md_X3_meet).cls (mY md_X3_meet) (mY md_X3_meet) ∈ WB := (wb_0 18 rfl rfl)
theorem ho_X3_meet : HOK WB md_X3_meet := fun _ h => absurd h List.not_mem_nil
theorem mo_X3_meet : MOK WB md_X3_meet := ⟨by decide, (wb_4 175 rfl rfl), (wb_1 6 rfl rfl), by decide +kernel, ⟨by decide +kernel, by decide +kernel⟩, rfl, (fun h => by cases h), by decide, ho_X3_meet⟩
theorem tb_X3_meetArguments : TB[52]? = some (md_X3_meetArguments, tl_X3_meetArguments) := rfl
theorem pr_X3_meetArguments : (parseMethodDescriptor (mY md_X3_meetArguments).desc).map (fun d => d.parameters.length) = some (mN md_X3_meetArguments - 1) := by decide +kernel
theorem in_X3_meetArguments : Jvm.Cond.instanceMethod (mY md_X3_meetArguments) ∈ WB := (wb_4 183 rfl rfl)
theorem se_X3_meetArguments : Jvm.Cond.selects (mY md_X3_meetArguments).cls (mY md_X3_meetArguments) (mY md_X3_meetArguments) ∈ WB := (wb_0 19 rfl rfl)
theorem ho_X3_meetArguments : HOK WB md_X3_meetArguments := fun _ h => absurd h List.not_mem_nil
theorem mo_X3_meetArguments : MOK WB md_X3_meetArguments := ⟨by decide, (wb_4 184 rfl rfl), (wb_1 6 rfl rfl), by decide +kernel, ⟨by decide +kernel, by decide +kernel⟩, rfl, (fun h => by cases h), by decide, ho_X3_meetArguments⟩
theorem tb_X3_share : TB[53]? = some (md_X3_share, tl_X3_share) := rfl
theorem pr_X3_share : (parseMethodDescriptor (mY md_X3_share).desc).map (fun d => d.parameters.length) = some (mN md_X3_share - 1) := by decide +kernel
theorem in_X3_share : Jvm.Cond.instanceMethod (mY md_X3_share) ∈ WB := (wb_4 151 rfl rfl)
theorem se_X3_share : Jvm.Cond.selects (mY md_X3_share).cls (mY md_X3_share) (mY md_X3_share) ∈ WB := (wb_0 16 rfl rfl)
theorem ho_X3_share : HOK WB md_X3_share := fun _ h => absurd h List.not_mem_nil
theorem mo_X3_share : MOK WB md_X3_share := ⟨by decide, (wb_4 152 rfl rfl), (wb_1 6 rfl rfl), by decide +kernel, ⟨by decide +kernel, by decide +kernel⟩, rfl, (fun h => by cases h), by decide, ho_X3_share⟩
theorem tb_X3_noteMatch : TB[54]? = some (md_X3_noteMatch, tl_X3_noteMatch) := rfl
theorem pr_X3_noteMatch : (parseMethodDescriptor (mY md_X3_noteMatch).desc).map (fun d => d.parameters.length) = some (mN md_X3_noteMatch - 1) := by decide +kernel
theorem in_X3_noteMatch : Jvm.Cond.instanceMethod (mY md_X3_noteMatch) ∈ WB := (wb_4 146 rfl rfl)
theorem se_X3_noteMatch : Jvm.Cond.selects (mY md_X3_noteMatch).cls (mY md_X3_noteMatch) (mY md_X3_noteMatch) ∈ WB := (wb_0 15 rfl rfl)
theorem ho_X3_noteMatch : HOK WB md_X3_noteMatch := fun _ h => absurd h List.not_mem_nil
theorem mo_X3_noteMatch : MOK WB md_X3_noteMatch := ⟨by decide, (wb_4 147 rfl rfl), (wb_1 6 rfl rfl), by decide +kernel, ⟨by decide +kernel, by decide +kernel⟩, rfl, (fun h => by cases h), by decide, ho_X3_noteMatch⟩
theorem tb_X4_add : TB[55]? = some (md_X4_add, tl_X4_add) := rfl
theorem pr_X4_add : (parseMethodDescriptor (mY md_X4_add).desc).map (fun d => d.parameters.length) = some (mN md_X4_add - 1) := by decide +kernel
theorem in_X4_add : Jvm.Cond.instanceMethod (mY md_X4_add) ∈ WB := (wb_4 105 rfl rfl)
theorem se_X4_add : Jvm.Cond.selects (mY md_X4_add).cls (mY md_X4_add) (mY md_X4_add) ∈ WB := (wb_0 11 rfl rfl)
theorem ho_X4_add : HOK WB md_X4_add := fun _ h => absurd h List.not_mem_nil
theorem mo_X4_add : MOK WB md_X4_add := ⟨by decide, (wb_4 106 rfl rfl), (wb_1 7 rfl rfl), by decide +kernel, ⟨by decide +kernel, by decide +kernel⟩, rfl, (fun h => by cases h), by decide, ho_X4_add⟩
theorem tb_X4_collect : TB[56]? = some (md_X4_collect, tl_X4_collect) := rfl
theorem pr_X4_collect : (parseMethodDescriptor (mY md_X4_collect).desc).map (fun d => d.parameters.length) = some (mN md_X4_collect - 1) := by decide +kernel
theorem in_X4_collect : Jvm.Cond.instanceMethod (mY md_X4_collect) ∈ WB := (wb_4 99 rfl rfl)
theorem se_X4_collect : Jvm.Cond.selects (mY md_X4_collect).cls (mY md_X4_collect) (mY md_X4_collect) ∈ WB := (wb_4 100 rfl rfl)
theorem ho_X4_collect : HOK WB md_X4_collect := fun _ h => absurd h List.not_mem_nil
theorem mo_X4_collect : MOK WB md_X4_collect := ⟨by decide, (wb_4 101 rfl rfl), (wb_1 7 rfl rfl), by decide +kernel, ⟨by decide +kernel, by decide +kernel⟩, rfl, (fun h => by cases h), by decide, ho_X4_collect⟩
theorem tb_X4_addParts : TB[57]? = some (md_X4_addParts, tl_X4_addParts) := rfl
theorem pr_X4_addParts : (parseMethodDescriptor (mY md_X4_addParts).desc).map (fun d => d.parameters.length) = some (mN md_X4_addParts - 1) := by decide +kernel
theorem in_X4_addParts : Jvm.Cond.instanceMethod (mY md_X4_addParts) ∈ WB := (wb_4 108 rfl rfl)
theorem se_X4_addParts : Jvm.Cond.selects (mY md_X4_addParts).cls (mY md_X4_addParts) (mY md_X4_addParts) ∈ WB := (wb_4 109 rfl rfl)
theorem ho_X4_addParts : HOK WB md_X4_addParts := fun _ h => absurd h List.not_mem_nil
theorem mo_X4_addParts : MOK WB md_X4_addParts := ⟨by decide, (wb_4 110 rfl rfl), (wb_1 7 rfl rfl), by decide +kernel, ⟨by decide +kernel, by decide +kernel⟩, rfl, (fun h => by cases h), by decide, ho_X4_addParts⟩
theorem tb_X4_writePart : TB[58]? = some (md_X4_writePart, tl_X4_writePart) := rfl
theorem pr_X4_writePart : (parseMethodDescriptor (mY md_X4_writePart).desc).map (fun d => d.parameters.length) = some (mN md_X4_writePart - 1) := by decide +kernel
theorem in_X4_writePart : Jvm.Cond.instanceMethod (mY md_X4_writePart) ∈ WB := (wb_4 121 rfl rfl)
theorem se_X4_writePart : Jvm.Cond.selects (mY md_X4_writePart).cls (mY md_X4_writePart) (mY md_X4_writePart) ∈ WB := (wb_0 12 rfl rfl)
theorem ho_X4_writePart : HOK WB md_X4_writePart := fun _ h => absurd h List.not_mem_nil
theorem mo_X4_writePart : MOK WB md_X4_writePart := ⟨by decide, (wb_4 122 rfl rfl), (wb_1 7 rfl rfl), by decide +kernel, ⟨by decide +kernel, by decide +kernel⟩, rfl, (fun h => by cases h), by decide, ho_X4_writePart⟩
theorem tb_X4_addIdentities : TB[59]? = some (md_X4_addIdentities, tl_X4_addIdentities) := rfl
theorem pr_X4_addIdentities : (parseMethodDescriptor (mY md_X4_addIdentities).desc).map (fun d => d.parameters.length) = some (mN md_X4_addIdentities - 1) := by decide +kernel
theorem in_X4_addIdentities : Jvm.Cond.instanceMethod (mY md_X4_addIdentities) ∈ WB := (wb_4 125 rfl rfl)
theorem se_X4_addIdentities : Jvm.Cond.selects (mY md_X4_addIdentities).cls (mY md_X4_addIdentities) (mY md_X4_addIdentities) ∈ WB := (wb_4 126 rfl rfl)
theorem ho_X4_addIdentities : HOK WB md_X4_addIdentities := fun _ h => absurd h List.not_mem_nil
theorem mo_X4_addIdentities : MOK WB md_X4_addIdentities := ⟨by decide, (wb_4 127 rfl rfl), (wb_1 7 rfl rfl), by decide +kernel, ⟨by decide +kernel, by decide +kernel⟩, rfl, (fun h => by cases h), by decide, ho_X4_addIdentities⟩
theorem tb_X4_rankAll : TB[60]? = some (md_X4_rankAll, tl_X4_rankAll) := rfl
theorem pr_X4_rankAll : (parseMethodDescriptor (mY md_X4_rankAll).desc).map (fun d => d.parameters.length) = some (mN md_X4_rankAll - 1) := by decide +kernel
theorem in_X4_rankAll : Jvm.Cond.instanceMethod (mY md_X4_rankAll) ∈ WB := (wb_4 129 rfl rfl)
theorem se_X4_rankAll : Jvm.Cond.selects (mY md_X4_rankAll).cls (mY md_X4_rankAll) (mY md_X4_rankAll) ∈ WB := (wb_4 130 rfl rfl)
theorem ho_X4_rankAll : HOK WB md_X4_rankAll := fun _ h => absurd h List.not_mem_nil
theorem mo_X4_rankAll : MOK WB md_X4_rankAll := ⟨by decide, (wb_4 131 rfl rfl), (wb_1 7 rfl rfl), by decide +kernel, ⟨by decide +kernel, by decide +kernel⟩, rfl, (fun h => by cases h), by decide, ho_X4_rankAll⟩
theorem tb_X4_argument : TB[61]? = some (md_X4_argument, tl_X4_argument) := rfl
theorem pr_X4_argument : (parseMethodDescriptor (mY md_X4_argument).desc).map (fun d => d.parameters.length) = some (mN md_X4_argument - 1) := by decide +kernel
theorem in_X4_argument : Jvm.Cond.instanceMethod (mY md_X4_argument) ∈ WB := (wb_4 186 rfl rfl)
theorem se_X4_argument : Jvm.Cond.selects (mY md_X4_argument).cls (mY md_X4_argument) (mY md_X4_argument) ∈ WB := (wb_4 187 rfl rfl)
theorem ho_X4_argument : HOK WB md_X4_argument := fun _ h => absurd h List.not_mem_nil
theorem mo_X4_argument : MOK WB md_X4_argument := ⟨by decide, (wb_4 188 rfl rfl), (wb_1 7 rfl rfl), by decide +kernel, ⟨by decide +kernel, by decide +kernel⟩, rfl, (fun h => by cases h), by decide, ho_X4_argument⟩
theorem tb_X4_maskFor : TB[62]? = some (md_X4_maskFor, tl_X4_maskFor) := rfl
theorem pr_X4_maskFor : (parseMethodDescriptor (mY md_X4_maskFor).desc).map (fun d => d.parameters.length) = some (mN md_X4_maskFor - 1) := by decide +kernel
theorem in_X4_maskFor : Jvm.Cond.instanceMethod (mY md_X4_maskFor) ∈ WB := (wb_4 178 rfl rfl)
theorem se_X4_maskFor : Jvm.Cond.selects (mY md_X4_maskFor).cls (mY md_X4_maskFor) (mY md_X4_maskFor) ∈ WB := (wb_4 179 rfl rfl)
theorem ho_X4_maskFor : HOK WB md_X4_maskFor := fun _ h => absurd h List.not_mem_nil
theorem mo_X4_maskFor : MOK WB md_X4_maskFor := ⟨by decide, (wb_4 180 rfl rfl), (wb_1 7 rfl rfl), by decide +kernel, ⟨by decide +kernel, by decide +kernel⟩, rfl, (fun h => by cases h), by decide, ho_X4_maskFor⟩
theorem tb_X4_passesOver : TB[63]? = some (md_X4_passesOver, tl_X4_passesOver) := rfl
theorem pr_X4_passesOver : (parseMethodDescriptor (mY md_X4_passesOver).desc).map (fun d => d.parameters.length) = some (mN md_X4_passesOver - 1) := by decide +kernel
theorem in_X4_passesOver : Jvm.Cond.instanceMethod (mY md_X4_passesOver) ∈ WB := (wb_4 155 rfl rfl)
theorem se_X4_passesOver : Jvm.Cond.selects (mY md_X4_passesOver).cls (mY md_X4_passesOver) (mY md_X4_passesOver) ∈ WB := (wb_4 156 rfl rfl)
theorem ho_X4_passesOver : HOK WB md_X4_passesOver := fun _ h => absurd h List.not_mem_nil
theorem mo_X4_passesOver : MOK WB md_X4_passesOver := ⟨by decide, (wb_4 157 rfl rfl), (wb_1 7 rfl rfl), by decide +kernel, ⟨by decide +kernel, by decide +kernel⟩, rfl, (fun h => by cases h), by decide, ho_X4_passesOver⟩
theorem tb_X4_partFor : TB[64]? = some (md_X4_partFor, tl_X4_partFor) := rfl
theorem pr_X4_partFor : (parseMethodDescriptor (mY md_X4_partFor).desc).map (fun d => d.parameters.length) = some (mN md_X4_partFor - 1) := by decide +kernel
theorem in_X4_partFor : Jvm.Cond.instanceMethod (mY md_X4_partFor) ∈ WB := (wb_4 159 rfl rfl)
theorem se_X4_partFor : Jvm.Cond.selects (mY md_X4_partFor).cls (mY md_X4_partFor) (mY md_X4_partFor) ∈ WB := (wb_4 160 rfl rfl)
theorem ho_X4_partFor : HOK WB md_X4_partFor := fun _ h => absurd h List.not_mem_nil
theorem mo_X4_partFor : MOK WB md_X4_partFor := ⟨by decide, (wb_4 161 rfl rfl), (wb_1 7 rfl rfl), by decide +kernel, ⟨by decide +kernel, by decide +kernel⟩, rfl, (fun h => by cases h), by decide, ho_X4_partFor⟩
theorem tb_X6_normalForm : TB[65]? = some (md_X6_normalForm, tl_X6_normalForm) := rfl
theorem pr_X6_normalForm : (parseMethodDescriptor (mY md_X6_normalForm).desc).map (fun d => d.parameters.length) = some (mN md_X6_normalForm - 1) := by decide +kernel
theorem in_X6_normalForm : Jvm.Cond.instanceMethod (mY md_X6_normalForm) ∈ WB := (wb_4 60 rfl rfl)
theorem se_X6_normalForm : Jvm.Cond.selects (mY md_X6_normalForm).cls (mY md_X6_normalForm) (mY md_X6_normalForm) ∈ WB := (wb_0 5 rfl rfl)
theorem ho_X6_normalForm : HOK WB md_X6_normalForm := fun _ h => absurd h List.not_mem_nil
theorem mo_X6_normalForm : MOK WB md_X6_normalForm := ⟨by decide, (wb_4 61 rfl rfl), (wb_1 8 rfl rfl), by decide +kernel, ⟨by decide +kernel, by decide +kernel⟩, rfl, (fun h => by cases h), by decide, ho_X6_normalForm⟩
theorem tb_X6_begin : TB[66]? = some (md_X6_begin, tl_X6_begin) := rfl
theorem pr_X6_begin : (parseMethodDescriptor (mY md_X6_begin).desc).map (fun d => d.parameters.length) = some (mN md_X6_begin - 1) := by decide +kernel
theorem in_X6_begin : Jvm.Cond.instanceMethod (mY md_X6_begin) ∈ WB := (wb_4 64 rfl rfl)
theorem se_X6_begin : Jvm.Cond.selects (mY md_X6_begin).cls (mY md_X6_begin) (mY md_X6_begin) ∈ WB := (wb_0 6 rfl rfl)
theorem ho_X6_begin : HOK WB md_X6_begin := fun _ h => absurd h List.not_mem_nil
theorem mo_X6_begin : MOK WB md_X6_begin := ⟨by decide, (wb_4 65 rfl rfl), (wb_1 8 rfl rfl), by decide +kernel, ⟨by decide +kernel, by decide +kernel⟩, rfl, (fun h => by cases h), by decide, ho_X6_begin⟩
theorem tb_X6_look : TB[67]? = some (md_X6_look, tl_X6_look) := rfl
theorem pr_X6_look : (parseMethodDescriptor (mY md_X6_look).desc).map (fun d => d.parameters.length) = some (mN md_X6_look - 1) := by decide +kernel
theorem in_X6_look : Jvm.Cond.instanceMethod (mY md_X6_look) ∈ WB := (wb_4 68 rfl rfl)
theorem se_X6_look : Jvm.Cond.selects (mY md_X6_look).cls (mY md_X6_look) (mY md_X6_look) ∈ WB := (wb_0 7 rfl rfl)
theorem ho_X6_look : HOK WB md_X6_look := fun _ h => absurd h List.not_mem_nil
theorem mo_X6_look : MOK WB md_X6_look := ⟨by decide, (wb_4 69 rfl rfl), (wb_1 8 rfl rfl), by decide +kernel, ⟨by decide +kernel, by decide +kernel⟩, rfl, (fun h => by cases h), by decide, ho_X6_look⟩
theorem tb_X6_finish : TB[68]? = some (md_X6_finish, tl_X6_finish) := rfl
theorem pr_X6_finish : (parseMethodDescriptor (mY md_X6_finish).desc).map (fun d => d.parameters.length) = some (mN md_X6_finish - 1) := by decide +kernel
theorem in_X6_finish : Jvm.Cond.instanceMethod (mY md_X6_finish) ∈ WB := (wb_4 74 rfl rfl)
theorem se_X6_finish : Jvm.Cond.selects (mY md_X6_finish).cls (mY md_X6_finish) (mY md_X6_finish) ∈ WB := (wb_0 8 rfl rfl)
theorem ho_X6_finish : HOK WB md_X6_finish := fun _ h => absurd h List.not_mem_nil
theorem mo_X6_finish : MOK WB md_X6_finish := ⟨by decide, (wb_4 75 rfl rfl), (wb_1 8 rfl rfl), by decide +kernel, ⟨by decide +kernel, by decide +kernel⟩, rfl, (fun h => by cases h), by decide, ho_X6_finish⟩
theorem tb_X6_rewritten : TB[69]? = some (md_X6_rewritten, tl_X6_rewritten) := rfl
theorem pr_X6_rewritten : (parseMethodDescriptor (mY md_X6_rewritten).desc).map (fun d => d.parameters.length) = some (mN md_X6_rewritten - 1) := by decide +kernel
theorem in_X6_rewritten : Jvm.Cond.instanceMethod (mY md_X6_rewritten) ∈ WB := (wb_4 80 rfl rfl)
theorem se_X6_rewritten : Jvm.Cond.selects (mY md_X6_rewritten).cls (mY md_X6_rewritten) (mY md_X6_rewritten) ∈ WB := (wb_0 9 rfl rfl)
theorem ho_X6_rewritten : HOK WB md_X6_rewritten := fun _ h => absurd h List.not_mem_nil
theorem mo_X6_rewritten : MOK WB md_X6_rewritten := ⟨by decide, (wb_4 81 rfl rfl), (wb_1 8 rfl rfl), by decide +kernel, ⟨by decide +kernel, by decide +kernel⟩, rfl, (fun h => by cases h), by decide, ho_X6_rewritten⟩
theorem tb_X6_decide : TB[70]? = some (md_X6_decide, tl_X6_decide) := rfl
theorem pr_X6_decide : (parseMethodDescriptor (mY md_X6_decide).desc).map (fun d => d.parameters.length) = some (mN md_X6_decide - 1) := by decide +kernel
theorem in_X6_decide : Jvm.Cond.instanceMethod (mY md_X6_decide) ∈ WB := (wb_4 191 rfl rfl)
theorem se_X6_decide : Jvm.Cond.selects (mY md_X6_decide).cls (mY md_X6_decide) (mY md_X6_decide) ∈ WB := (wb_0 20 rfl rfl)
theorem ho_X6_decide : HOK WB md_X6_decide := fun _ h => absurd h List.not_mem_nil
theorem mo_X6_decide : MOK WB md_X6_decide := ⟨by decide, (wb_4 192 rfl rfl), (wb_1 8 rfl rfl), by decide +kernel, ⟨by decide +kernel, by decide +kernel⟩, rfl, (fun h => by cases h), by decide, ho_X6_decide⟩
theorem tb_X7_reaches : TB[71]? = some (md_X7_reaches, tl_X7_reaches) := rfl
theorem pr_X7_reaches : (parseMethodDescriptor (mY md_X7_reaches).desc).map (fun d => d.parameters.length) = some (mN md_X7_reaches - 1) := by decide +kernel
theorem in_X7_reaches : Jvm.Cond.instanceMethod (mY md_X7_reaches) ∈ WB := (wb_4 169 rfl rfl)
theorem se_X7_reaches : Jvm.Cond.selects (mY md_X7_reaches).cls (mY md_X7_reaches) (mY md_X7_reaches) ∈ WB := (wb_4 170 rfl rfl)
theorem ho_X7_reaches : HOK WB md_X7_reaches := fun _ h => absurd h List.not_mem_nil
theorem mo_X7_reaches : MOK WB md_X7_reaches := ⟨by decide, (wb_4 171 rfl rfl), (wb_1 2 rfl rfl), by decide +kernel, ⟨by decide +kernel, by decide +kernel⟩, rfl, (fun h => by cases h), by decide, ho_X7_reaches⟩
theorem tb_X7_resultOf : TB[72]? = some (md_X7_resultOf, tl_X7_resultOf) := rfl
theorem pr_X7_resultOf : (parseMethodDescriptor (mY md_X7_resultOf).desc).map (fun d => d.parameters.length) = some (mN md_X7_resultOf - 1) := by decide +kernel
theorem in_X7_resultOf : Jvm.Cond.instanceMethod (mY md_X7_resultOf) ∈ WB := (wb_4 12 rfl rfl)
theorem se_X7_resultOf : Jvm.Cond.selects (mY md_X7_resultOf).cls (mY md_X7_resultOf) (mY md_X7_resultOf) ∈ WB := (wb_4 13 rfl rfl)
theorem ho_X7_resultOf : HOK WB md_X7_resultOf := fun _ h => absurd h List.not_mem_nil
theorem mo_X7_resultOf : MOK WB md_X7_resultOf := ⟨by decide, (wb_4 14 rfl rfl), (wb_1 2 rfl rfl), by decide +kernel, ⟨by decide +kernel, by decide +kernel⟩, rfl, (fun h => by cases h), by decide, ho_X7_resultOf⟩
theorem tb_X8_order : TB[73]? = some (md_X8_order, tl_X8_order) := rfl
theorem pr_X8_order : (parseMethodDescriptor (mY md_X8_order).desc).map (fun d => d.parameters.length) = some (mN md_X8_order - 1) := by decide +kernel
theorem in_X8_order : Jvm.Cond.instanceMethod (mY md_X8_order) ∈ WB := (wb_3 222 rfl rfl)
theorem se_X8_order : Jvm.Cond.selects (mY md_X8_order).cls (mY md_X8_order) (mY md_X8_order) ∈ WB := (wb_3 223 rfl rfl)
theorem ho_X8_order : HOK WB md_X8_order := fun _ h => absurd h List.not_mem_nil
theorem mo_X8_order : MOK WB md_X8_order := ⟨by decide, (wb_3 224 rfl rfl), (wb_1 4 rfl rfl), by decide +kernel, ⟨by decide +kernel, by decide +kernel⟩, rfl, (fun h => by cases h), by decide, ho_X8_order⟩
theorem tb_X8_settle : TB[74]? = some (md_X8_settle, tl_X8_settle) := rfl
theorem pr_X8_settle : (parseMethodDescriptor (mY md_X8_settle).desc).map (fun d => d.parameters.length) = some (mN md_X8_settle - 1) := by decide +kernel
theorem in_X8_settle : Jvm.Cond.instanceMethod (mY md_X8_settle) ∈ WB := (wb_4 208 rfl rfl)
theorem se_X8_settle : Jvm.Cond.selects (mY md_X8_settle).cls (mY md_X8_settle) (mY md_X8_settle) ∈ WB := (wb_4 209 rfl rfl)
theorem ho_X8_settle : HOK WB md_X8_settle := fun _ h => absurd h List.not_mem_nil
theorem mo_X8_settle : MOK WB md_X8_settle := ⟨by decide, (wb_4 210 rfl rfl), (wb_1 4 rfl rfl), by decide +kernel, ⟨by decide +kernel, by decide +kernel⟩, rfl, (fun h => by cases h), by decide, ho_X8_settle⟩
theorem tb_X8_sortAt : TB[75]? = some (md_X8_sortAt, tl_X8_sortAt) := rfl
theorem pr_X8_sortAt : (parseMethodDescriptor (mY md_X8_sortAt).desc).map (fun d => d.parameters.length) = some (mN md_X8_sortAt - 1) := by decide +kernel
theorem in_X8_sortAt : Jvm.Cond.instanceMethod (mY md_X8_sortAt) ∈ WB := (wb_4 5 rfl rfl)
theorem se_X8_sortAt : Jvm.Cond.selects (mY md_X8_sortAt).cls (mY md_X8_sortAt) (mY md_X8_sortAt) ∈ WB := (wb_0 4 rfl rfl)
theorem ho_X8_sortAt : HOK WB md_X8_sortAt := fun _ h => absurd h List.not_mem_nil
theorem mo_X8_sortAt : MOK WB md_X8_sortAt := ⟨by decide, (wb_4 6 rfl rfl), (wb_1 4 rfl rfl), by decide +kernel, ⟨by decide +kernel, by decide +kernel⟩, rfl, (fun h => by cases h), by decide, ho_X8_sortAt⟩
theorem tb_X8_rebuild : TB[76]? = some (md_X8_rebuild, tl_X8_rebuild) := rfl
theorem pr_X8_rebuild : (parseMethodDescriptor (mY md_X8_rebuild).desc).map (fun d => d.parameters.length) = some (mN md_X8_rebuild - 1) := by decide +kernel
theorem in_X8_rebuild : Jvm.Cond.instanceMethod (mY md_X8_rebuild) ∈ WB := (wb_4 200 rfl rfl)
theorem se_X8_rebuild : Jvm.Cond.selects (mY md_X8_rebuild).cls (mY md_X8_rebuild) (mY md_X8_rebuild) ∈ WB := (wb_0 21 rfl rfl)
theorem ho_X8_rebuild : HOK WB md_X8_rebuild := fun _ h => absurd h List.not_mem_nil
theorem mo_X8_rebuild : MOK WB md_X8_rebuild := ⟨by decide, (wb_4 201 rfl rfl), (wb_1 4 rfl rfl), by decide +kernel, ⟨by decide +kernel, by decide +kernel⟩, rfl, (fun h => by cases h), by decide, ho_X8_rebuild⟩
theorem tb_X10_sortOf : TB[77]? = some (md_X10_sortOf, tl_X10_sortOf) := rfl
theorem pr_X10_sortOf : (parseMethodDescriptor (mY md_X10_sortOf).desc).map (fun d => d.parameters.length) = some (mN md_X10_sortOf - 1) := by decide +kernel
theorem in_X10_sortOf : Jvm.Cond.instanceMethod (mY md_X10_sortOf) ∈ WB := (wb_3 235 rfl rfl)
theorem se_X10_sortOf : Jvm.Cond.selects (mY md_X10_sortOf).cls (mY md_X10_sortOf) (mY md_X10_sortOf) ∈ WB := (wb_3 236 rfl rfl)
theorem ho_X10_sortOf : HOK WB md_X10_sortOf := fun _ h => absurd h List.not_mem_nil
theorem mo_X10_sortOf : MOK WB md_X10_sortOf := ⟨by decide, (wb_3 237 rfl rfl), (wb_1 1 rfl rfl), by decide +kernel, ⟨by decide +kernel, by decide +kernel⟩, rfl, (fun h => by cases h), by decide, ho_X10_sortOf⟩
theorem tb_X10_code : TB[78]? = some (md_X10_code, tl_X10_code) := rfl
theorem pr_X10_code : (parseMethodDescriptor (mY md_X10_code).desc).map (fun d => d.parameters.length) = some (mN md_X10_code - 1) := by decide +kernel
theorem in_X10_code : Jvm.Cond.instanceMethod (mY md_X10_code) ∈ WB := (wb_4 233 rfl rfl)
theorem se_X10_code : Jvm.Cond.selects (mY md_X10_code).cls (mY md_X10_code) (mY md_X10_code) ∈ WB := (wb_4 234 rfl rfl)
theorem ho_X10_code : HOK WB md_X10_code := fun _ h => absurd h List.not_mem_nil
theorem mo_X10_code : MOK WB md_X10_code := ⟨by decide, (wb_4 235 rfl rfl), (wb_1 1 rfl rfl), by decide +kernel, ⟨by decide +kernel, by decide +kernel⟩, rfl, (fun h => by cases h), by decide, ho_X10_code⟩
theorem tb_X10_matches : TB[79]? = some (md_X10_matches, tl_X10_matches) := rfl
theorem pr_X10_matches : (parseMethodDescriptor (mY md_X10_matches).desc).map (fun d => d.parameters.length) = some (mN md_X10_matches - 1) := by decide +kernel
theorem in_X10_matches : Jvm.Cond.instanceMethod (mY md_X10_matches) ∈ WB := (wb_5 11 rfl rfl)
theorem se_X10_matches : Jvm.Cond.selects (mY md_X10_matches).cls (mY md_X10_matches) (mY md_X10_matches) ∈ WB := (wb_5 12 rfl rfl)
theorem ho_X10_matches : HOK WB md_X10_matches := fun _ h => absurd h List.not_mem_nil
theorem mo_X10_matches : MOK WB md_X10_matches := ⟨by decide, (wb_5 13 rfl rfl), (wb_1 1 rfl rfl), by decide +kernel, ⟨by decide +kernel, by decide +kernel⟩, rfl, (fun h => by cases h), by decide, ho_X10_matches⟩
theorem tb_X10_matchesAnew : TB[80]? = some (md_X10_matchesAnew, tl_X10_matchesAnew) := rfl
theorem pr_X10_matchesAnew : (parseMethodDescriptor (mY md_X10_matchesAnew).desc).map (fun d => d.parameters.length) = some (mN md_X10_matchesAnew - 1) := by decide +kernel
theorem in_X10_matchesAnew : Jvm.Cond.instanceMethod (mY md_X10_matchesAnew) ∈ WB := (wb_5 21 rfl rfl)
theorem se_X10_matchesAnew : Jvm.Cond.selects (mY md_X10_matchesAnew).cls (mY md_X10_matchesAnew) (mY md_X10_matchesAnew) ∈ WB := (wb_5 22 rfl rfl)
theorem ho_X10_matchesAnew : HOK WB md_X10_matchesAnew := fun _ h => absurd h List.not_mem_nil
theorem mo_X10_matchesAnew : MOK WB md_X10_matchesAnew := ⟨by decide, (wb_5 23 rfl rfl), (wb_1 1 rfl rfl), by decide +kernel, ⟨by decide +kernel, by decide +kernel⟩, rfl, (fun h => by cases h), by decide, ho_X10_matchesAnew⟩
theorem tb_X10_match : TB[81]? = some (md_X10_match, tl_X10_match) := rfl
theorem pr_X10_match : (parseMethodDescriptor (mY md_X10_match).desc).map (fun d => d.parameters.length) = some (mN md_X10_match - 1) := by decide +kernel
theorem in_X10_match : Jvm.Cond.instanceMethod (mY md_X10_match) ∈ WB := (wb_5 35 rfl rfl)
theorem se_X10_match : Jvm.Cond.selects (mY md_X10_match).cls (mY md_X10_match) (mY md_X10_match) ∈ WB := (wb_5 36 rfl rfl)
theorem ho_X10_match : HOK WB md_X10_match := fun _ h => absurd h List.not_mem_nil
theorem mo_X10_match : MOK WB md_X10_match := ⟨by decide, (wb_5 37 rfl rfl), (wb_1 1 rfl rfl), by decide +kernel, ⟨by decide +kernel, by decide +kernel⟩, rfl, (fun h => by cases h), by decide, ho_X10_match⟩
theorem tb_X10_reduce : TB[82]? = some (md_X10_reduce, tl_X10_reduce) := rfl
theorem pr_X10_reduce : (parseMethodDescriptor (mY md_X10_reduce).desc).map (fun d => d.parameters.length) = some (mN md_X10_reduce - 1) := by decide +kernel
theorem in_X10_reduce : Jvm.Cond.instanceMethod (mY md_X10_reduce) ∈ WB := (wb_4 55 rfl rfl)
theorem se_X10_reduce : Jvm.Cond.selects (mY md_X10_reduce).cls (mY md_X10_reduce) (mY md_X10_reduce) ∈ WB := (wb_4 56 rfl rfl)
theorem ho_X10_reduce : HOK WB md_X10_reduce := fun _ h => absurd h List.not_mem_nil
theorem mo_X10_reduce : MOK WB md_X10_reduce := ⟨by decide, (wb_4 57 rfl rfl), (wb_1 1 rfl rfl), by decide +kernel, ⟨by decide +kernel, by decide +kernel⟩, rfl, (fun h => by cases h), by decide, ho_X10_reduce⟩
theorem tb_X10_matching : TB[83]? = some (md_X10_matching, tl_X10_matching) := rfl
theorem pr_X10_matching : (parseMethodDescriptor (mY md_X10_matching).desc).map (fun d => d.parameters.length) = some (mN md_X10_matching - 1) := by decide +kernel
theorem in_X10_matching : Jvm.Cond.instanceMethod (mY md_X10_matching) ∈ WB := (wb_4 213 rfl rfl)
theorem se_X10_matching : Jvm.Cond.selects (mY md_X10_matching).cls (mY md_X10_matching) (mY md_X10_matching) ∈ WB := (wb_4 214 rfl rfl)
theorem ho_X10_matching : HOK WB md_X10_matching := fun _ h => absurd h List.not_mem_nil
theorem mo_X10_matching : MOK WB md_X10_matching := ⟨by decide, (wb_4 215 rfl rfl), (wb_1 1 rfl rfl), by decide +kernel, ⟨by decide +kernel, by decide +kernel⟩, rfl, (fun h => by cases h), by decide, ho_X10_matching⟩
theorem tb_X10_topAt : TB[84]? = some (md_X10_topAt, tl_X10_topAt) := rfl
theorem pr_X10_topAt : (parseMethodDescriptor (mY md_X10_topAt).desc).map (fun d => d.parameters.length) = some (mN md_X10_topAt - 1) := by decide +kernel
theorem in_X10_topAt : Jvm.Cond.instanceMethod (mY md_X10_topAt) ∈ WB := (wb_4 1 rfl rfl)
theorem se_X10_topAt : Jvm.Cond.selects (mY md_X10_topAt).cls (mY md_X10_topAt) (mY md_X10_topAt) ∈ WB := (wb_0 3 rfl rfl)
theorem ho_X10_topAt : HOK WB md_X10_topAt := fun _ h => absurd h List.not_mem_nil
theorem mo_X10_topAt : MOK WB md_X10_topAt := ⟨by decide, (wb_4 2 rfl rfl), (wb_1 1 rfl rfl), by decide +kernel, ⟨by decide +kernel, by decide +kernel⟩, rfl, (fun h => by cases h), by decide, ho_X10_topAt⟩
theorem tb_X10_hasPatternAndSubject : TB[85]? = some (md_X10_hasPatternAndSubject, tl_X10_hasPatternAndSubject) := rfl
theorem pr_X10_hasPatternAndSubject : (parseMethodDescriptor (mY md_X10_hasPatternAndSubject).desc).map (fun d => d.parameters.length) = some (mN md_X10_hasPatternAndSubject - 1) := by decide +kernel
theorem in_X10_hasPatternAndSubject : Jvm.Cond.instanceMethod (mY md_X10_hasPatternAndSubject) ∈ WB := (wb_5 16 rfl rfl)
theorem se_X10_hasPatternAndSubject : Jvm.Cond.selects (mY md_X10_hasPatternAndSubject).cls (mY md_X10_hasPatternAndSubject) (mY md_X10_hasPatternAndSubject) ∈ WB := (wb_0 22 rfl rfl)
theorem ho_X10_hasPatternAndSubject : HOK WB md_X10_hasPatternAndSubject := fun _ h => absurd h List.not_mem_nil
theorem mo_X10_hasPatternAndSubject : MOK WB md_X10_hasPatternAndSubject := ⟨by decide, (wb_5 17 rfl rfl), (wb_1 1 rfl rfl), by decide +kernel, ⟨by decide +kernel, by decide +kernel⟩, rfl, (fun h => by cases h), by decide, ho_X10_hasPatternAndSubject⟩
theorem tb_X10_operatorIn : TB[86]? = some (md_X10_operatorIn, tl_X10_operatorIn) := rfl
theorem pr_X10_operatorIn : (parseMethodDescriptor (mY md_X10_operatorIn).desc).map (fun d => d.parameters.length) = some (mN md_X10_operatorIn) := by decide +kernel
theorem st_X10_operatorIn : Jvm.Cond.static (mY md_X10_operatorIn) ∈ WB := (wb_4 8 rfl rfl)
theorem ho_X10_operatorIn : HOK WB md_X10_operatorIn := fun _ h => absurd h List.not_mem_nil
theorem mo_X10_operatorIn : MOK WB md_X10_operatorIn := ⟨by decide, (wb_4 9 rfl rfl), (wb_1 1 rfl rfl), by decide +kernel, ⟨by decide +kernel, by decide +kernel⟩, rfl, (fun h => by cases h), by decide, ho_X10_operatorIn⟩
theorem tb_J6_lowestOneBit_0f7a4 : TB[87]? = some (md_J6_lowestOneBit_0f7a4, tl_J6_lowestOneBit_0f7a4) := rfl
theorem pr_J6_lowestOneBit_0f7a4 : (parseMethodDescriptor (mY md_J6_lowestOneBit_0f7a4).desc).map (fun d => d.parameters.length) = some (mN md_J6_lowestOneBit_0f7a4) := by decide +kernel
theorem st_J6_lowestOneBit_0f7a4 : Jvm.Cond.static (mY md_J6_lowestOneBit_0f7a4) ∈ WB := (wb_4 112 rfl rfl)
theorem ho_J6_lowestOneBit_0f7a4 : HOK WB md_J6_lowestOneBit_0f7a4 := fun _ h => absurd h List.not_mem_nil
theorem mo_J6_lowestOneBit_0f7a4 : MOK WB md_J6_lowestOneBit_0f7a4 := ⟨by decide, (wb_4 113 rfl rfl), (wb_1 20 rfl rfl), by decide +kernel, ⟨by decide +kernel, by decide +kernel⟩, rfl, (fun h => by cases h), by decide, ho_J6_lowestOneBit_0f7a4⟩
theorem tb_J6_numberOfTrailingZeros_0f7a4 : TB[88]? = some (md_J6_numberOfTrailingZeros_0f7a4, tl_J6_numberOfTrailingZeros_0f7a4) := rfl
theorem pr_J6_numberOfTrailingZeros_0f7a4 : (parseMethodDescriptor (mY md_J6_numberOfTrailingZeros_0f7a4).desc).map (fun d => d.parameters.length) = some (mN md_J6_numberOfTrailingZeros_0f7a4) := by decide +kernel
theorem st_J6_numberOfTrailingZeros_0f7a4 : Jvm.Cond.static (mY md_J6_numberOfTrailingZeros_0f7a4) ∈ WB := (wb_4 116 rfl rfl)
theorem ho_J6_numberOfTrailingZeros_0f7a4 : HOK WB md_J6_numberOfTrailingZeros_0f7a4 := fun _ h => absurd h List.not_mem_nil
theorem mo_J6_numberOfTrailingZeros_0f7a4 : MOK WB md_J6_numberOfTrailingZeros_0f7a4 := ⟨by decide, (wb_4 117 rfl rfl), (wb_1 20 rfl rfl), by decide +kernel, ⟨by decide +kernel, by decide +kernel⟩, rfl, (fun h => by cases h), by decide, ho_J6_numberOfTrailingZeros_0f7a4⟩
theorem tb_L_cell : TB[89]? = some (md_L_cell, tl_L_cell) := rfl
theorem pr_L_cell : (parseMethodDescriptor (mY md_L_cell).desc).map (fun d => d.parameters.length) = some (mN md_L_cell) := by decide +kernel
theorem st_L_cell : Jvm.Cond.static (mY md_L_cell) ∈ WB := (wb_4 218 rfl rfl)
theorem ho_L_cell : HOK WB md_L_cell := fun _ h => absurd h List.not_mem_nil
theorem mo_L_cell : MOK WB md_L_cell := ⟨by decide, (wb_4 219 rfl rfl), (wb_1 0 rfl rfl), by decide +kernel, ⟨by decide +kernel, by decide +kernel⟩, rfl, (fun h => by cases h), by decide, ho_L_cell⟩
theorem tb_L_low : TB[90]? = some (md_L_low, tl_L_low) := rfl
theorem pr_L_low : (parseMethodDescriptor (mY md_L_low).desc).map (fun d => d.parameters.length) = some (mN md_L_low) := by decide +kernel
theorem st_L_low : Jvm.Cond.static (mY md_L_low) ∈ WB := (wb_4 223 rfl rfl)
theorem ho_L_low : HOK WB md_L_low := fun _ h => absurd h List.not_mem_nil
theorem mo_L_low : MOK WB md_L_low := ⟨by decide, (wb_4 224 rfl rfl), (wb_1 0 rfl rfl), by decide +kernel, ⟨by decide +kernel, by decide +kernel⟩, rfl, (fun h => by cases h), by decide, ho_L_low⟩
theorem tb_L_number : TB[91]? = some (md_L_number, tl_L_number) := rfl
theorem pr_L_number : (parseMethodDescriptor (mY md_L_number).desc).map (fun d => d.parameters.length) = some (mN md_L_number) := by decide +kernel
theorem st_L_number : Jvm.Cond.static (mY md_L_number) ∈ WB := (wb_4 227 rfl rfl)
theorem ho_L_number : HOK WB md_L_number := fun _ h => absurd h List.not_mem_nil
theorem mo_L_number : MOK WB md_L_number := ⟨by decide, (wb_4 228 rfl rfl), (wb_1 0 rfl rfl), by decide +kernel, ⟨by decide +kernel, by decide +kernel⟩, rfl, (fun h => by cases h), by decide, ho_L_number⟩
theorem tb_L_is : TB[92]? = some (md_L_is, tl_L_is) := rfl
theorem pr_L_is : (parseMethodDescriptor (mY md_L_is).desc).map (fun d => d.parameters.length) = some (mN md_L_is) := by decide +kernel
theorem st_L_is : Jvm.Cond.static (mY md_L_is) ∈ WB := (wb_4 230 rfl rfl)
theorem ho_L_is : HOK WB md_L_is := fun _ h => absurd h List.not_mem_nil
theorem mo_L_is : MOK WB md_L_is := ⟨by decide, (wb_4 231 rfl rfl), (wb_1 0 rfl rfl), by decide +kernel, ⟨by decide +kernel, by decide +kernel⟩, rfl, (fun h => by cases h), by decide, ho_L_is⟩
theorem tb_L_refused : TB[93]? = some (md_L_refused, tl_L_refused) := rfl
theorem pr_L_refused : (parseMethodDescriptor (mY md_L_refused).desc).map (fun d => d.parameters.length) = some (mN md_L_refused) := by decide +kernel
theorem st_L_refused : Jvm.Cond.static (mY md_L_refused) ∈ WB := (wb_5 0 rfl rfl)
theorem ho_L_refused : HOK WB md_L_refused := List.forall_mem_cons.mpr ⟨fun _ => ⟨by decide, (wb_5 2 rfl rfl)⟩, List.forall_mem_cons.mpr ⟨fun _ => ⟨by decide, (wb_5 3 rfl rfl)⟩, fun _ h => absurd h List.not_mem_nil⟩⟩
theorem mo_L_refused : MOK WB md_L_refused := ⟨by decide, (wb_5 1 rfl rfl), (wb_1 0 rfl rfl), by decide +kernel, ⟨by decide +kernel, by decide +kernel⟩, rfl, (fun h => by cases h), by decide, ho_L_refused⟩
theorem tb_L_things : TB[94]? = some (md_L_things, tl_L_things) := rfl
theorem pr_L_things : (parseMethodDescriptor (mY md_L_things).desc).map (fun d => d.parameters.length) = some (mN md_L_things) := by decide +kernel
theorem st_L_things : Jvm.Cond.static (mY md_L_things) ∈ WB := (wb_5 8 rfl rfl)
theorem ho_L_things : HOK WB md_L_things := fun _ h => absurd h List.not_mem_nil
theorem mo_L_things : MOK WB md_L_things := ⟨by decide, (wb_5 9 rfl rfl), (wb_1 0 rfl rfl), by decide +kernel, ⟨by decide +kernel, by decide +kernel⟩, rfl, (fun h => by cases h), by decide, ho_L_things⟩
theorem tb_L_bags : TB[95]? = some (md_L_bags, tl_L_bags) := rfl
theorem pr_L_bags : (parseMethodDescriptor (mY md_L_bags).desc).map (fun d => d.parameters.length) = some (mN md_L_bags) := by decide +kernel
theorem st_L_bags : Jvm.Cond.static (mY md_L_bags) ∈ WB := (wb_5 5 rfl rfl)
theorem ho_L_bags : HOK WB md_L_bags := fun _ h => absurd h List.not_mem_nil
theorem mo_L_bags : MOK WB md_L_bags := ⟨by decide, (wb_5 6 rfl rfl), (wb_1 0 rfl rfl), by decide +kernel, ⟨by decide +kernel, by decide +kernel⟩, rfl, (fun h => by cases h), by decide, ho_L_bags⟩
theorem tb_L_first : TB[96]? = some (md_L_first, tl_L_first) := rfl
theorem pr_L_first : (parseMethodDescriptor (mY md_L_first).desc).map (fun d => d.parameters.length) = some (mN md_L_first) := by decide +kernel
theorem st_L_first : Jvm.Cond.static (mY md_L_first) ∈ WB := (wb_5 41 rfl rfl)
theorem ho_L_first : HOK WB md_L_first := fun _ h => absurd h List.not_mem_nil
theorem mo_L_first : MOK WB md_L_first := ⟨by decide, (wb_5 42 rfl rfl), (wb_1 0 rfl rfl), by decide +kernel, ⟨by decide +kernel, by decide +kernel⟩, rfl, (fun h => by cases h), by decide, ho_L_first⟩
theorem tb_L_rows : TB[97]? = some (md_L_rows, tl_L_rows) := rfl
theorem pr_L_rows : (parseMethodDescriptor (mY md_L_rows).desc).map (fun d => d.parameters.length) = some (mN md_L_rows) := by decide +kernel
theorem st_L_rows : Jvm.Cond.static (mY md_L_rows) ∈ WB := (wb_5 44 rfl rfl)
theorem ho_L_rows : HOK WB md_L_rows := fun _ h => absurd h List.not_mem_nil
theorem mo_L_rows : MOK WB md_L_rows := ⟨by decide, (wb_5 45 rfl rfl), (wb_1 0 rfl rfl), by decide +kernel, ⟨by decide +kernel, by decide +kernel⟩, rfl, (fun h => by cases h), by decide, ho_L_rows⟩
