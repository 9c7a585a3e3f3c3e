/-! the claim is false: at this script, on the start whose limits are just the room, the machine comes to no end -/
def launchF : Launch := { launch0 with maxFrames := 2050 }
def xsF : List Int32 := [3, 0, 0, (-1), 0, 0, 3, 1, 0, (-1), 0, 0, 6, 0, 0, 0, 0, 0, 6, 0, 0, 0, 0, 0, 6, 1, 0, 0, 0, 0, 6, 1, 0, 0, 0, 0, 6, 1, 0, 0, 0, 0, 6, 1, 0, 0, 0, 0, 6, 1, 0, 0, 0, 0, 6, 1, 0, 0, 0, 0, 6, 1, 0, 0, 0, 0, 6, 1, 0, 0, 0, 0, 6, 1, 0, 0, 0, 0, 6, 1, 0, 0, 0, 0, 6, 1, 0, 0, 0, 0, 6, 1, 0, 0, 0, 0, 6, 1, 0, 0, 0, 0, 6, 1, 0, 0, 0, 0, 6, 1, 0, 0, 0, 0, 6, 1, 0, 0, 0, 0, 6, 1, 0, 0, 0, 0, 6, 1, 0, 0, 0, 0, 6, 1, 0, 0, 0, 0, 15, 0, 0, 0, 0, 0, 6, 0, 0, 0, 0, 0, 17, 0, 0, 0, 0, 0]
def cellsF : Array Value := (xsF.map Value.int).toArray
def stateF : State := start1.aboutOf cellsF
def envF : Env := launchF.env 0 0 0
theorem Lists_fr {l : Launch} {n : Nat} {file : ClassFile.Facts.File} {x : MethodName} {code : ByteArray} {maxLocals : Nat} {ret : Option FieldType} {ts : List Jvm.Cond} {room : Room} (h : Lists l file x code maxLocals ret ts room) (hs : ({ l with maxFrames := n } : Launch).sound = true) : Lists { l with maxFrames := n } file x code maxLocals ret ts room := ⟨hs, h.2.1, h.2.2.1, h.2.2.2⟩
theorem listsF : Lists launchF classFile x code maxLocals ret tables_1 room_1 := Lists_fr (n := 2050) lists_1 (by decide +kernel)
theorem vmF : stateF.vm = start1.about.vm := rfl
theorem warmF : start1.about.WarmedH stateF.vm := by rw [vmF]; exact State.WarmedH.refl _
theorem badF : ((Jvm.Cond.code x code maxLocals ret :: tables_1).filter (fun w => !goodWord w)).all (fun w => w.before start1.args0 stateF) = true := by decide +kernel
theorem wordsF : ∀ w ∈ (Jvm.Cond.code x code maxLocals ret :: tables_1), w.before start1.args0 stateF = true := by
  intro w hw
  cases hg : goodWord w with
  | true => exact word_at warmF (good_of_word hg) (start1.words w hw)
  | false => exact List.all_eq_true.mp badF w (List.mem_filter.mpr ⟨hw, by rw [hg]; rfl⟩)
theorem su_andF {a b : Jvm.Cond} (h1 : a.before start1.args0 stateF = true) (h2 : b.before start1.args0 stateF = true) : (Jvm.Cond.and a b).before start1.args0 stateF = true := by rw [Cond.before_and, Bool.and_eq_true]; exact ⟨h1, h2⟩
theorem narrowF_1 : narrow_1_1.before start1.args0 stateF = true := by decide +kernel
theorem narrowF_2 : narrow_1_2.before start1.args0 stateF = true := by decide +kernel
theorem narrowF_3 : narrow_1_3.before start1.args0 stateF = true := by decide +kernel
theorem narrowF_4 : narrow_1_4.before start1.args0 stateF = true := by decide +kernel
theorem narrowF_5 : narrow_1_5.before start1.args0 stateF = true := by decide +kernel
theorem narrowF : narrow_1.before start1.args0 stateF = true := by
  unfold narrow_1
  exact (su_andF (su_andF narrowF_1 narrowF_2) (su_andF narrowF_3 (su_andF narrowF_4 narrowF_5)))
theorem appF : (headSpec (Jvm.Cond.code x code maxLocals ret :: tables_1) room_1).applies x envF.platform stateF = true :=
  (Spec.applies_iff rfl).mpr ⟨rfl, rfl, rfl, by decide +kernel, by decide +kernel, by decide +kernel, by decide +kernel, atoms_intro wordsF⟩
theorem fitA : argsFit stateF.vm ⟨0, 0⟩ start1.args0 = true := by decide +kernel
theorem fitH : heapFits stateF = true := by decide +kernel
theorem restF : rest_1_c.before start1.args0 stateF = true := by decide +kernel
theorem givenF : given_1.before start1.args0 stateF = true := by decide +kernel
theorem NXVF : NXV stateF := by
  unfold NXV
  decide +kernel
