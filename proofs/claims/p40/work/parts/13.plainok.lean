def ilen : Instr → Nat
  | .bipush _ | .iload _ | .aload _ | .istore _ | .astore _ | .lload _ | .lstore _ | .ldc _ | .newarray _ => 2
  | .sipush _ | .ldc_w _ | .iinc _ _ | .goto _ | .ifCond _ _ | .if_icmp _ _ | .ifnull _ | .ifnonnull _ | .if_acmp _ _ | .getfield _ | .putfield _ | .getstatic _ | .invokevirtual _ | .invokespecial _ | .invokestatic _ | .new _ | .anewarray _ | .checkcast _ | .instanceof _ => 3
  | .invokeinterface _ _ => 5
  | _ => 1
theorem sj {α : Type} {a r : α} (h : some a = some r) : a = r := Option.some.inj h
theorem pld_ok {als : Als} {i pc' : Nat} {ast : List AV} {ok : AV → Bool} {r : Nat × Als × List AV} (h : pld als i pc' ast ok = some r) : ∃ a, llk als i = some a ∧ ok a = true ∧ (pc', als, a :: ast) = r := by
  unfold pld at h
  cases e : llk als i with
  | none => rw [e] at h; cases h
  | some a =>
    rw [e] at h
    cases e2 : ok a with
    | false => simp only [e2] at h; cases h
    | true => simp only [e2] at h; exact ⟨a, rfl, e2, sj h⟩
theorem pst_ok {nL : Nat} {als : Als} {i pc' : Nat} {ast : List AV} {ok : AV → Bool} {r : Nat × Als × List AV} (h : pst nL als i pc' ast ok = some r) : ∃ a rest, ast = a :: rest ∧ ok a = true ∧ i < nL ∧ (pc', lst als i a, rest) = r := by
  unfold pst at h
  cases ast with
  | nil => cases h
  | cons a rest =>
    cases e2 : ok a with
    | false => simp only [e2] at h; cases h
    | true =>
      simp only [e2] at h
      split at h
      · exact ⟨a, rest, rfl, e2, by assumption, sj h⟩
      · cases h
theorem jmp_ok {r : Option Bool} {pc len : Nat} {o : Int} {als : Als} {ast : List AV} {q : Nat × Als × List AV} (h : jmp r pc len o als ast = some q) :
    ∃ t : Nat, (pc : Int) + o = (t : Int) ∧ ((r = some true ∧ (t, als, ast) = q) ∨ (r = some false ∧ (pc + len, als, ast) = q)) := by
  unfold jmp at h
  unfold tgt at h
  by_cases h0 : 0 ≤ (pc : Int) + o
  · rw [if_pos h0] at h
    refine ⟨((pc : Int) + o).toNat, by omega, ?_⟩
    match r, h with
    | none, h => cases h
    | some false, h => exact Or.inr ⟨rfl, sj h⟩
    | some true, h => exact Or.inl ⟨rfl, sj h⟩
  · rw [if_neg h0] at h; cases h
theorem beq1 {n : Nat} (h : Nat.beq n 1 = true) : n = 1 := Nat.eq_of_beq_eq_true h
section OK
variable {p : Program} {l : Launch} {e : Env} {R : Room} {s : State} {m : MethodId} {args : Array Value} {below : List Frame} {meth : Method} {c : Code} {H : Heap} {locs : List Loc} {cells slots : Nat} {Q : State → Prop} {cc : ByteArray} {pc : Nat} {ls : Array Slot} {st : List Value}
variable {g : GV} {ρ : List Nat} {bnd : List (Nat × Nat)} {msk nL : Nat} {als : Als} {ast : List AV} {r : Nat × Als × List AV}
theorem ar2_ok {f : Nat → Nat → AV} {pc' : Nat} (op : Int32 → Int32 → Int32) (h : ar2 f pc' als ast = some r) (hf : ∀ a b : Nat, vrel g ρ (f a b) (.int (op (nI a) (nI b)))) (hS : F2 (vrel g ρ) ast st) (row : ∀ (x y : Int32) (rest : List Value), W p l e R s m args below meth c H locs cells slots Q (F0 m pc' ls (.int (op x y) :: rest)) → W p l e R s m args below meth c H locs cells slots Q (F0 m pc ls (.int y :: .int x :: rest)))
    (k : ∀ st', r.1 = pc' → r.2.1 = als → F2 (vrel g ρ) r.2.2 st' → W p l e R s m args below meth c H locs cells slots Q (F0 m pc' ls st')) : W p l e R s m args below meth c H locs cells slots Q (F0 m pc ls st) := by
  have key : ∀ (b a : AV) (rest : List AV), ast = b :: a :: rest → ar2 f pc' als ast = some r → ∃ (x y : Int32) (vs : List Value) (d : AV), st = .int y :: .int x :: vs ∧ (pc', als, d :: rest) = r ∧ vrel g ρ d (.int (op x y)) ∧ F2 (vrel g ρ) rest vs := by
    intro b a rest e1 h
    subst e1
    obtain ⟨vb, st1, rfl, hb1, hS1⟩ := F2_cons hS
    obtain ⟨va, vs, rfl, ha1, hS2⟩ := F2_cons hS1
    have gen : ∀ (u : isI a = true) (v : isI b = true), (pc', als, .inr (.inr (.inr (.inr 1))) :: rest) = r → ∃ (x y : Int32) (ws : List Value) (d : AV), vb :: va :: vs = .int y :: .int x :: ws ∧ (pc', als, d :: rest) = r ∧ vrel g ρ d (.int (op x y)) ∧ F2 (vrel g ρ) rest ws := by
      intro u v e
      obtain ⟨x, rfl⟩ := vint u ha1
      obtain ⟨y, rfl⟩ := vint v hb1
      exact ⟨x, y, vs, _, rfl, e, ⟨_, rfl⟩, hS2⟩
    have gen2 : (match isI a && isI b with | true => some (pc', als, (.inr (.inr (.inr (.inr 1))) : AV) :: rest) | false => none) = some r → ∃ (x y : Int32) (ws : List Value) (d : AV), vb :: va :: vs = .int y :: .int x :: ws ∧ (pc', als, d :: rest) = r ∧ vrel g ρ d (.int (op x y)) ∧ F2 (vrel g ρ) rest ws := by
      intro h
      cases u : isI a <;> cases v : isI b <;> simp only [u, v] at h
      · cases h
      · cases h
      · cases h
      · exact gen u v (sj h)
    match b, a, h, hb1, ha1, gen2 with
    | .inl b, .inl a, h, hb1, ha1, _ =>
      rw [show vb = _ from hb1, show va = _ from ha1]
      exact ⟨_, _, _, _, rfl, sj h, hf a b, hS2⟩
    | .inl b, .inr a, h, _, _, gen2 => exact gen2 h
    | .inr b, .inl a, h, _, _, gen2 => exact gen2 h
    | .inr b, .inr a, h, _, _, gen2 => exact gen2 h
  match ast, h, key with
  | [], h, _ => cases h
  | [.inl b], h, _ => cases h
  | [.inr b], h, _ => cases h
  | b :: a :: rest, h, key =>
    obtain ⟨x, y, vs, d, rfl, e, hd, hr⟩ := key b a rest rfl h
    subst e
    exact row x y vs (k _ rfl rfl (F2_mk hd hr))
end OK
