/-! the claim is false: at this script, on the start whose limits are just the room, the machine comes to no end -/
def xsF : List Int32 := [3, 0, 0, (-1), 0, 0, 3, 1, 0, (-1), 0, 0, 6, 0, 0, 0, 0, 0, 6, 0, 0, 0, 0, 0, 6, 1, 0, 0, 0, 0, 6, 1, 0, 0, 0, 0, 6, 1, 0, 0, 0, 0, 6, 1, 0, 0, 0, 0, 6, 1, 0, 0, 0, 0, 6, 1, 0, 0, 0, 0, 6, 1, 0, 0, 0, 0, 6, 1, 0, 0, 0, 0, 6, 1, 0, 0, 0, 0, 6, 1, 0, 0, 0, 0, 6, 1, 0, 0, 0, 0, 6, 1, 0, 0, 0, 0, 6, 1, 0, 0, 0, 0, 6, 1, 0, 0, 0, 0, 6, 1, 0, 0, 0, 0, 6, 1, 0, 0, 0, 0, 6, 1, 0, 0, 0, 0, 6, 1, 0, 0, 0, 0, 6, 1, 0, 0, 0, 0, 15, 0, 0, 0, 0, 0, 6, 0, 0, 0, 0, 0, 17, 0, 0, 0, 0, 0]
def cellsF : Array Value := (xsF.map Value.int).toArray
def stateF : State := start1.aboutOf cellsF
def envF : Env := launchF.env 0 0 0
theorem vmF : stateF.vm = start1.about.vm := rfl
theorem warmF : start1.about.WarmedH stateF.vm := by rw [vmF]; exact State.WarmedH.refl _
def offL : List Jvm.Cond := (Jvm.Cond.code x code maxLocals ret :: tables_1).filter (fun w => !(w.onTables || goodWord w))
theorem badF_0 : ((offL).take 8).all (fun w => w.before start1.args0 stateF) = true := by decide +kernel
theorem badF_1 : (((offL).drop 8).take 8).all (fun w => w.before start1.args0 stateF) = true := by decide +kernel
theorem badF_2 : ((((offL).drop 8).drop 8).take 8).all (fun w => w.before start1.args0 stateF) = true := by decide +kernel
theorem badF_3 : (((((offL).drop 8).drop 8).drop 8).take 8).all (fun w => w.before start1.args0 stateF) = true := by decide +kernel
theorem badF_4 : ((((((offL).drop 8).drop 8).drop 8).drop 8).take 8).all (fun w => w.before start1.args0 stateF) = true := by decide +kernel
theorem badF_5 : (((((((offL).drop 8).drop 8).drop 8).drop 8).drop 8).take 8).all (fun w => w.before start1.args0 stateF) = true := by decide +kernel
theorem badF_6 : ((((((((offL).drop 8).drop 8).drop 8).drop 8).drop 8).drop 8).take 8).all (fun w => w.before start1.args0 stateF) = true := by decide +kernel
theorem badF_7 : ((((((((offL).drop 8).drop 8).drop 8).drop 8).drop 8).drop 8).drop 8).all (fun w => w.before start1.args0 stateF) = true := by decide +kernel
theorem badF : ∀ w ∈ offL, w.before start1.args0 stateF = true := List.all_eq_true.mp ((start1.su_all_split _ 8 _ badF_0 (start1.su_all_split _ 8 _ badF_1 (start1.su_all_split _ 8 _ badF_2 (start1.su_all_split _ 8 _ badF_3 (start1.su_all_split _ 8 _ badF_4 (start1.su_all_split _ 8 _ badF_5 (start1.su_all_split _ 8 _ badF_6 badF_7))))))))
theorem tabF_same (w : Jvm.Cond) (h : w.onTables = true) (h0 : w.before start1.args0 start1.about = true) : w.before start1.args0 stateF = true := by
  have e1 := Cond.onTables_vm (A := start1.args0) (A' := start1.args0) (U := stateF) (U' := start1.about) start1.about.vm w h
  have e2 : stateF.setVm start1.about.vm = stateF := rfl
  have e3 : start1.about.setVm start1.about.vm = start1.about := rfl
  rw [e2, e3] at e1
  rw [e1]; exact h0
theorem wordsF : ∀ w ∈ (Jvm.Cond.code x code maxLocals ret :: tables_1), w.before start1.args0 stateF = true := by
  intro w hw
  cases hg : goodWord w with
  | true => exact word_at warmF (good_of_word hg) (start1.words w hw)
  | false =>
    cases ho : w.onTables with
    | true => exact tabF_same w ho (start1.words w hw)
    | false => exact badF w (List.mem_filter.mpr ⟨hw, by rw [hg, ho]; rfl⟩)
theorem su_andF {a b : Jvm.Cond} (h1 : a.before start1.args0 stateF = true) (h2 : b.before start1.args0 stateF = true) : (Jvm.Cond.and a b).before start1.args0 stateF = true := by rw [Cond.before_and, Bool.and_eq_true]; exact ⟨h1, h2⟩
theorem narrowF_1 : narrow_1_1.before start1.args0 stateF = true := by decide +kernel
theorem narrowF_2 : narrow_1_2.before start1.args0 stateF = true := by decide +kernel
theorem narrowF_3 : narrow_1_3.before start1.args0 stateF = true := by decide +kernel
theorem narrowF_4 : narrow_1_4.before start1.args0 stateF = true := by decide +kernel
theorem narrowF_5 : narrow_1_5.before start1.args0 stateF = true := by decide +kernel
theorem narrowF : narrow_1.before start1.args0 stateF = true := by
  unfold narrow_1
  exact (su_andF (su_andF narrowF_1 narrowF_2) (su_andF narrowF_3 (su_andF narrowF_4 narrowF_5)))
theorem appF : (headSpec (Jvm.Cond.code x code maxLocals ret :: tables_1) room_1).applies x envF.platform stateF = true :=
  (Spec.applies_iff rfl).mpr ⟨rfl, rfl, rfl, by decide +kernel, by decide +kernel, by decide +kernel, by decide +kernel, atoms_intro wordsF⟩
theorem fitA : argsFit stateF.vm ⟨0, 0⟩ start1.args0 = true := by decide +kernel
theorem fitH : heapFits stateF = true := by decide +kernel
theorem restF : rest_1_c.before start1.args0 stateF = true := by decide +kernel
theorem givenF : given_1.before start1.args0 stateF = true := by decide +kernel
theorem NXVF : NXV stateF := by
  unfold NXV
  decide +kernel
