/-! a launch with another limit of frames says the same of its files -/
def launchF : Launch := { launch0 with maxFrames := 2050 }
section FRAMES
variable {l k : Launch}
theorem fr_array (hF : ∀ c, k.file? c = l.file? c) (c : String) : ShelfD.arrayNameByFiles k c = ShelfD.arrayNameByFiles l c := by
  simp only [ShelfD.arrayNameByFiles, hF]
theorem fr_reaches (hF : ∀ c, k.file? c = l.file? c) (hT : ∀ t, ShelfD.fileOfText k t = ShelfD.fileOfText l t) (g : String) (n : Nat) : ∀ c : String, ShelfD.reachesByFiles k g n c = ShelfD.reachesByFiles l g n c := by
  induction n with
  | zero => intro c; rfl
  | succ n ih => intro c; simp only [ShelfD.reachesByFiles, fr_array hF, hF, hT, ih]
theorem fr_method (hF : ∀ c, k.file? c = l.file? c) (hT : ∀ t, ShelfD.fileOfText k t = ShelfD.fileOfText l t) (a b : ClassFile.Facts.Text) (n : Nat) : ∀ c : String, ShelfD.firstWithMethod k a b n c = ShelfD.firstWithMethod l a b n c := by
  induction n with
  | zero => intro c; rfl
  | succ n ih => intro c; simp only [ShelfD.firstWithMethod, fr_array hF, hF, hT, ih]
theorem fr_clear (hT : ∀ t, ShelfD.fileOfText k t = ShelfD.fileOfText l t) (a b : ClassFile.Facts.Text) (n : Nat) : ∀ c : ClassFile.Facts.Text, ShelfD.clearOfField k a b n c = ShelfD.clearOfField l a b n c := by
  induction n with
  | zero => intro c; rfl
  | succ n ih => intro c; simp only [ShelfD.clearOfField, hT, ih]
theorem fr_field (hF : ∀ c, k.file? c = l.file? c) (hT : ∀ t, ShelfD.fileOfText k t = ShelfD.fileOfText l t) (a b : ClassFile.Facts.Text) (n : Nat) : ∀ c : String, ShelfD.firstWithField k a b n c = ShelfD.firstWithField l a b n c := by
  induction n with
  | zero => intro c; rfl
  | succ n ih => intro c; simp only [ShelfD.firstWithField, fr_array hF, fr_clear hT, hF, hT, ih]
theorem fr_hides (hF : ∀ c, k.file? c = l.file? c) (hT : ∀ t, ShelfD.fileOfText k t = ShelfD.fileOfText l t) (a b : ClassFile.Facts.Text) (n : Nat) : ∀ c : String, ShelfD.noneHides k a b n c = ShelfD.noneHides l a b n c := by
  induction n with
  | zero => intro c; rfl
  | succ n ih => intro c; simp only [ShelfD.noneHides, hF, hT, ih]
theorem fr_slots (hF : ∀ c, k.file? c = l.file? c) (hT : ∀ t, ShelfD.fileOfText k t = ShelfD.fileOfText l t) (n : Nat) : ∀ c : String, ShelfD.slotsByFiles k n c = ShelfD.slotsByFiles l n c := by
  induction n with
  | zero => intro c; rfl
  | succ n ih => intro c; simp only [ShelfD.slotsByFiles, hF, hT, ih]
theorem fr_class (hF : ∀ c, k.file? c = l.file? c) (hT : ∀ t, ShelfD.fileOfText k t = ShelfD.fileOfText l t) (g : String) (n : Nat) : ∀ c : String, ShelfD.reachesClassByFiles k g n c = ShelfD.reachesClassByFiles l g n c := by
  induction n with
  | zero => intro c; rfl
  | succ n ih => intro c; simp only [ShelfD.reachesClassByFiles, hF, hT, ih]
theorem fr_type (hF : ∀ c, k.file? c = l.file? c) (t : FieldType) : ShelfD.typeListed k t = ShelfD.typeListed l t := by
  induction t with
  | object c => show (k.file? c).isSome = (l.file? c).isSome; rw [hF]
  | array t ih => exact ih
  | _ => rfl
theorem fr_flags (hF : ∀ c, k.file? c = l.file? c) (hT : ∀ t, ShelfD.fileOfText k t = ShelfD.fileOfText l t) (a b c : String) (n : Nat) : ShelfD.plainByFlags k a b c n = ShelfD.plainByFlags l a b c n := by
  simp only [ShelfD.plainByFlags, fr_class hF hT, hF]
theorem fr_plain (hF : ∀ c, k.file? c = l.file? c) (a b : String) : ShelfD.classPlainByFiles k a b = ShelfD.classPlainByFiles l a b := by
  simp only [ShelfD.classPlainByFiles, hF]
theorem fr_held (hF : ∀ c, k.file? c = l.file? c) (hT : ∀ t, ShelfD.fileOfText k t = ShelfD.fileOfText l t) (w : Jvm.Cond) : heldByFiles k w = heldByFiles l w := by
  induction w with
  | and a b ia ib => show (heldByFiles k a && heldByFiles k b) = (heldByFiles l a && heldByFiles l b); rw [ia, ib]
  | selects a x y => show ShelfD.selectsByFiles k a x y = ShelfD.selectsByFiles l a x y; simp only [ShelfD.selectsByFiles, fr_method hF hT, fr_reaches hF hT, hF]
  | sameMethod a b c d => show ShelfD.sameMethodByFiles k a b c d = ShelfD.sameMethodByFiles l a b c d; simp only [ShelfD.sameMethodByFiles, fr_method hF hT, hF]
  | sameField a b c d => show ShelfD.sameFieldByFiles k a b c d = ShelfD.sameFieldByFiles l a b c d; simp only [ShelfD.sameFieldByFiles, fr_field hF hT]
  | unhidden a b c => show ShelfD.unhiddenByFiles k a b c = ShelfD.unhiddenByFiles l a b c; simp only [ShelfD.unhiddenByFiles, fr_hides hF hT]
  | castable a b => show ShelfD.reachesByFiles k b 64 a = ShelfD.reachesByFiles l b 64 a; rw [fr_reaches hF hT]
  | interfaceMethod a b c d => show ShelfD.interfaceMethodByFiles k a b c d = ShelfD.interfaceMethodByFiles l a b c d; simp only [ShelfD.interfaceMethodByFiles, hF]
  | lays a b c d => show ShelfD.reachesByFiles k b 64 a = ShelfD.reachesByFiles l b 64 a; rw [fr_reaches hF hT]
  | laysFinal a b c d => show ShelfD.reachesByFiles k b 64 a = ShelfD.reachesByFiles l b 64 a; rw [fr_reaches hF hT]
  | instantiable a n => show decide (ShelfD.slotsByFiles k 64 a = some n) = decide (ShelfD.slotsByFiles l 64 a = some n); rw [fr_slots hF hT]
  | initialized a => show (k.file? a).isSome = (l.file? a).isSome; rw [hF]
  | initializedFor a b c => show ShelfD.staticFieldByFiles k a b c = ShelfD.staticFieldByFiles l a b c; simp only [ShelfD.staticFieldByFiles, fr_field hF hT]
  | arrayClass t => show (ShelfD.typeListed k t && decide (ShelfD.dimsOf t < 255)) = (ShelfD.typeListed l t && decide (ShelfD.dimsOf t < 255)); rw [fr_type hF]
  | arrayOver t => show (ShelfD.isReferenceType t && ShelfD.typeListed k t && decide (ShelfD.dimsOf t < 255)) = (ShelfD.isReferenceType t && ShelfD.typeListed l t && decide (ShelfD.dimsOf t < 255)); rw [fr_type hF]
  | fieldRef a i r n d => show (k.file? r).isSome = (l.file? r).isSome; rw [hF]
  | fieldLink a i r n d => show ShelfD.fieldLinkByFiles k a r n d = ShelfD.fieldLinkByFiles l a r n d; simp only [ShelfD.fieldLinkByFiles, fr_plain hF, fr_field hF hT, fr_flags hF hT]
  | methodRef a i x => show (k.file? x.cls).isSome = (l.file? x.cls).isSome; rw [hF]
  | methodLink a i x => show ShelfD.methodLinkByFiles k a x = ShelfD.methodLinkByFiles l a x; simp only [ShelfD.methodLinkByFiles, fr_plain hF, fr_method hF hT, fr_flags hF hT]
  | classRef a i n => show (if ShelfD.isArrayName n then ShelfD.arrayNameByFiles k n else (k.file? n).isSome) = (if ShelfD.isArrayName n then ShelfD.arrayNameByFiles l n else (l.file? n).isSome); rw [fr_array hF, hF]
  | classLink a i n => show ShelfD.classPlainByFiles k a n = ShelfD.classPlainByFiles l a n; rw [fr_plain hF]
  | _ => rfl
end FRAMES
theorem Lists_fr {l : Launch} {n : Nat} {file : ClassFile.Facts.File} {x : MethodName} {code : ByteArray} {maxLocals : Nat} {ret : Option FieldType} {ts : List Jvm.Cond} {room : Room} (h : Lists l file x code maxLocals ret ts room) (hs : ({ l with maxFrames := n } : Launch).sound = true) : Lists { l with maxFrames := n } file x code maxLocals ret ts room := ⟨hs, h.2.1, h.2.2.1, List.all_eq_true.mpr (fun w hw => by rw [fr_held (l := l) (fun _ => rfl) (fun _ => rfl) w]; exact List.all_eq_true.mp h.2.2.2 w hw)⟩
