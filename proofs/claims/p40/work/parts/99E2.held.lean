/-! a launch with another limit of frames says the same of its files -/
def launchF : Launch := { launch0 with maxFrames := 2050 }
section FRAMES
variable {l k : Launch}
theorem fr_array (hF : ∀ c, k.file? c = l.file? c) (c : String) : arrayNameStands k c = arrayNameStands l c := by
  simp only [arrayNameStands, hF]
theorem fr_reaches (hF : ∀ c, k.file? c = l.file? c) (hT : ∀ t, fileOfText k t = fileOfText l t) (g : String) (n : Nat) : ∀ c : String, reachesByFiles k g n c = reachesByFiles l g n c := by
  induction n with
  | zero => intro c; rfl
  | succ n ih => intro c; simp only [reachesByFiles, fr_array hF, hF, hT, ih]
theorem fr_method (hF : ∀ c, k.file? c = l.file? c) (hT : ∀ t, fileOfText k t = fileOfText l t) (a b : ClassFile.Facts.Text) (n : Nat) : ∀ c : String, firstWithMethod k a b n c = firstWithMethod l a b n c := by
  induction n with
  | zero => intro c; rfl
  | succ n ih => intro c; simp only [firstWithMethod, fr_array hF, hF, hT, ih]
theorem fr_clear (hT : ∀ t, fileOfText k t = fileOfText l t) (a b : ClassFile.Facts.Text) (n : Nat) : ∀ c : ClassFile.Facts.Text, clearOfField k a b n c = clearOfField l a b n c := by
  induction n with
  | zero => intro c; rfl
  | succ n ih => intro c; simp only [clearOfField, hT, ih]
theorem fr_field (hF : ∀ c, k.file? c = l.file? c) (hT : ∀ t, fileOfText k t = fileOfText l t) (a b : ClassFile.Facts.Text) (n : Nat) : ∀ c : String, firstWithField k a b n c = firstWithField l a b n c := by
  induction n with
  | zero => intro c; rfl
  | succ n ih => intro c; simp only [firstWithField, fr_array hF, fr_clear hT, hF, hT, ih]
theorem fr_hides (hF : ∀ c, k.file? c = l.file? c) (hT : ∀ t, fileOfText k t = fileOfText l t) (a b : ClassFile.Facts.Text) (n : Nat) : ∀ c : String, noneHides k a b n c = noneHides l a b n c := by
  induction n with
  | zero => intro c; rfl
  | succ n ih => intro c; simp only [noneHides, hF, hT, ih]
theorem fr_slots (hF : ∀ c, k.file? c = l.file? c) (hT : ∀ t, fileOfText k t = fileOfText l t) (n : Nat) : ∀ c : String, slotsByFiles k n c = slotsByFiles l n c := by
  induction n with
  | zero => intro c; rfl
  | succ n ih => intro c; simp only [slotsByFiles, hF, hT, ih]
theorem fr_class (hF : ∀ c, k.file? c = l.file? c) (hT : ∀ t, fileOfText k t = fileOfText l t) (g : String) (n : Nat) : ∀ c : String, reachesClassByFiles k g n c = reachesClassByFiles l g n c := by
  induction n with
  | zero => intro c; rfl
  | succ n ih => intro c; simp only [reachesClassByFiles, hF, hT, ih]
theorem fr_type (hF : ∀ c, k.file? c = l.file? c) (t : FieldType) : typeListed k t = typeListed l t := by
  induction t with
  | object c => show (k.file? c).isSome = (l.file? c).isSome; rw [hF]
  | array t ih => exact ih
  | _ => rfl
theorem fr_flags (hF : ∀ c, k.file? c = l.file? c) (hT : ∀ t, fileOfText k t = fileOfText l t) (a b c : String) (n : Nat) : plainByFlags k a b c n = plainByFlags l a b c n := by
  simp only [plainByFlags, fr_class hF hT, hF]
theorem fr_plain (hF : ∀ c, k.file? c = l.file? c) (a b : String) : classPlainByFiles k a b = classPlainByFiles l a b := by
  simp only [classPlainByFiles, hF]
theorem fr_mlink (hF : ∀ c, k.file? c = l.file? c) (hT : ∀ t, fileOfText k t = fileOfText l t) (a : String) (x : MethodName) : methodLinkByFiles k a x = methodLinkByFiles l a x := by
  simp only [methodLinkByFiles, fr_plain hF, fr_method hF hT, fr_flags hF hT]
theorem fr_host (hF : ∀ c, k.file? c = l.file? c) (a b : String) : hostIsByFiles k a b = hostIsByFiles l a b := by
  simp only [hostIsByFiles, hF]
theorem fr_held (hF : ∀ c, k.file? c = l.file? c) (hT : ∀ t, fileOfText k t = fileOfText l t) (w : Jvm.Cond) : heldByFiles k w = heldByFiles l w := by
  induction w with
  | and a b ia ib => show (heldByFiles k a && heldByFiles k b) = (heldByFiles l a && heldByFiles l b); rw [ia, ib]
  | selects a x y => show selectsByFiles k a x y = selectsByFiles l a x y; simp only [selectsByFiles, fr_method hF hT, fr_reaches hF hT, hF]
  | sameMethod a b c d => show sameMethodByFiles k a b c d = sameMethodByFiles l a b c d; simp only [sameMethodByFiles, fr_method hF hT, hF]
  | sameField a b c d => show sameFieldByFiles k a b c d = sameFieldByFiles l a b c d; simp only [sameFieldByFiles, fr_field hF hT]
  | unhidden a b c => show unhiddenByFiles k a b c = unhiddenByFiles l a b c; simp only [unhiddenByFiles, fr_hides hF hT]
  | castable a b => show reachesByFiles k b 64 a = reachesByFiles l b 64 a; rw [fr_reaches hF hT]
  | interfaceMethod a b c d => show interfaceMethodByFiles k a b c d = interfaceMethodByFiles l a b c d; simp only [interfaceMethodByFiles, hF]
  | lays a b c d => show reachesByFiles k b 64 a = reachesByFiles l b 64 a; rw [fr_reaches hF hT]
  | laysFinal a b c d => show reachesByFiles k b 64 a = reachesByFiles l b 64 a; rw [fr_reaches hF hT]
  | instantiable a n => show decide (slotsByFiles k 64 a = some n) = decide (slotsByFiles l 64 a = some n); rw [fr_slots hF hT]
  | initialized a => show (k.file? a).isSome = (l.file? a).isSome; rw [hF]
  | initializedFor a b c => show staticFieldByFiles k a b c = staticFieldByFiles l a b c; simp only [staticFieldByFiles, fr_field hF hT]
  | arrayClass t => show (typeListed k t && decide (dimsOf t < 255)) = (typeListed l t && decide (dimsOf t < 255)); rw [fr_type hF]
  | arrayOver t => show (isReferenceType t && typeListed k t && decide (dimsOf t < 255)) = (isReferenceType t && typeListed l t && decide (dimsOf t < 255)); rw [fr_type hF]
  | superclass a b => show (k.file? a).any (fun f => !f.isAnInterface) = (l.file? a).any (fun f => !f.isAnInterface); rw [hF]
  | fieldLinkNest a i r n d q => show fieldLinkNestByFiles k a r n d q = fieldLinkNestByFiles l a r n d q; simp only [fieldLinkNestByFiles, fr_plain hF, fr_field hF hT, fr_host hF]
  | methodLinkNest a i x q => show methodLinkNestByFiles k a x q = methodLinkNestByFiles l a x q; simp only [methodLinkNestByFiles, fr_plain hF, fr_method hF hT, fr_host hF]
  | fieldRef a i r n d => show (k.file? r).isSome = (l.file? r).isSome; rw [hF]
  | fieldLink a i r n d => show fieldLinkByFiles k a r n d = fieldLinkByFiles l a r n d; simp only [fieldLinkByFiles, fr_plain hF, fr_field hF hT, fr_flags hF hT]
  | methodRef a i x => show (if isArrayName x.cls then methodLinkByFiles k a x else (k.file? x.cls).isSome) = (if isArrayName x.cls then methodLinkByFiles l a x else (l.file? x.cls).isSome); rw [fr_mlink hF hT, hF]
  | methodLink a i x => show methodLinkByFiles k a x = methodLinkByFiles l a x; rw [fr_mlink hF hT]
  | classRef a i n => simp only [heldByFiles, hF]
  | classLink a i n => show classPlainByFiles k a n = classPlainByFiles l a n; rw [fr_plain hF]
  | _ => rfl
end FRAMES
theorem Lists_fr {l : Launch} {n : Nat} {file : ClassFile.Facts.File} {x : MethodName} {code : ByteArray} {maxLocals : Nat} {ret : Option FieldType} {ts : List Jvm.Cond} {room : Room} (h : Lists l file x code maxLocals ret ts room) (hs : ({ l with maxFrames := n } : Launch).sound = true) : Lists { l with maxFrames := n } file x code maxLocals ret ts room := ⟨hs, h.2.1, h.2.2.1, List.all_eq_true.mpr (fun w hw => (fr_held (k := { l with maxFrames := n }) (l := l) (fun _ => rfl) (fun _ => rfl) w).trans (List.all_eq_true.mp h.2.2.2 w hw))⟩
theorem fr_chain {l k : Launch} (hC : k.classes = l.classes) (n : Nat) : ∀ f : ClassFile.Facts.File, k.chainAbove? n f = l.chainAbove? n f := by
  induction n with
  | zero => intro f; rfl
  | succ n ih => intro f; simp only [Launch.chainAbove?, hC, ih]
theorem fr_shallow (l : Launch) (n : Nat) : ({ l with maxFrames := n } : Launch).shallow = l.shallow := by
  simp only [Launch.shallow, fr_chain (k := { l with maxFrames := n }) (l := l) rfl]
theorem fr_sound (l : Launch) (n : Nat) (h : 88 * n ≤ realStackBytes) (hs : l.sound = true) : ({ l with maxFrames := n } : Launch).sound = true := by
  have e := fr_shallow l n
  unfold Launch.sound at hs ⊢
  simp only [Bool.and_eq_true] at hs ⊢
  obtain ⟨⟨⟨⟨⟨⟨⟨⟨⟨⟨⟨⟨⟨⟨⟨⟨⟨⟨a1, a2⟩, a3⟩, a4⟩, a5⟩, a6⟩, a7⟩, a8⟩, a9⟩, a10⟩, a11⟩, a12⟩, a13⟩, a14⟩, a15⟩, a16⟩, a17⟩, a18⟩, a19⟩ := hs
  exact ⟨⟨⟨⟨⟨⟨⟨⟨⟨⟨⟨⟨⟨⟨⟨⟨⟨⟨a1, a2⟩, a3⟩, a4⟩, a5⟩, a6⟩, decide_eq_true ⟨h, (of_decide_eq_true a7).2⟩⟩, a8⟩, a9⟩, a10⟩, a11⟩, a12⟩, a13⟩, a14⟩, a15⟩, e.trans a16⟩, a17⟩, a18⟩, a19⟩
theorem listsF : Lists launchF classFile x code maxLocals ret tables_1 room_1 := Lists_fr (n := 2050) lists_1 (fr_sound launch0 2050 (by decide) lists_1.1)
