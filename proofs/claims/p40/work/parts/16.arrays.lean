def pald (kt : Nat → Bool) (ah : List AC) (ast : List AV) : Option (List AV) :=
  match ast with
  | .inl n :: .inr (.inr (.inl i)) :: rest => match ah[i]? with
    | some (.inr w) => match kt w.1 with
      | true => if n < w.2.2.1 then (if w.2.2.1 < 2147483648 then some (alk w.2.2.2.2 w.2.2.2.1 n :: rest) else none) else none
      | false => none
    | _ => none
  | _ => none
def past (kt : Nat → AV → Bool) (ah : List AC) (ast : List AV) : Option (List AC × List AV) :=
  match ast with
  | a :: .inl n :: .inr (.inr (.inl i)) :: rest => match ah[i]? with
    | some (.inr w) => match kt w.1 a with
      | true => if n < w.2.2.1 then (if w.2.2.1 < 2147483648 then some (ah.set i (.inr (w.1, w.2.1, w.2.2.1, (n, a) :: w.2.2.2.1, w.2.2.2.2)), rest) else none) else none
      | false => none
    | _ => none
  | _ => none
def palen (ah : List AC) (ast : List AV) : Option (List AV) :=
  match ast with
  | .inr (.inr (.inl i)) :: rest => match ah[i]? with
    | some (.inr w) => some (.inl w.2.2.1 :: rest)
    | _ => none
  | .inr (.inr (.inr (.inr 3))) :: rest => some (.inl 0 :: rest)
  | _ => none
theorem alk_here (d : AV) (l : Als) (n : Nat) (a : AV) : alk d ((n, a) :: l) n = a := by
  unfold alk
  rw [show Nat.beq n n = true from Nat.beq_refl n]
theorem alk_there (d : AV) (l : Als) {n j : Nat} (a : AV) (h : j ≠ n) : alk d ((n, a) :: l) j = alk d l j := by
  show (match Nat.beq n j with | true => a | false => alk d l j) = alk d l j
  cases hb : Nat.beq n j with
  | true => exact absurd (Nat.eq_of_beq_eq_true hb).symm h
  | false => rfl
theorem vp_nar_01 {a : AV} {g : GV} {ρ : List Nat} {x : Int32} (h : fitk 1 a = true) (hr : vrel g ρ a (.int x)) : vp_nar .boolean x = x := by
  match a, h, hr with
  | .inl 0, _, hr => have e : Value.int x = .int (nI 0) := hr; injection e with e; rw [e]; decide
  | .inl 1, _, hr => have e : Value.int x = .int (nI 1) := hr; injection e with e; rw [e]; decide
section AOK
variable {p : Program} {l : Launch} {e : Env} {R : Room} {s : State} {m : MethodId} {args : Array Value} {below : List Frame} {meth : Method} {c : Code} {H : Heap} {locs : List Loc} {cells slots : Nat} {Q : State → Prop} {cc : ByteArray} {pc : Nat} {ls : Array Slot} {st : List Value}
variable {g : GV} {D : va_G} {A : Nat → Prop} {ρ : List Nat} {tys : TY} {ah : List AC} {ast : List AV}
theorem pald_in {kt : Nat → Bool} {r : List AV} (h : pald kt ah ast = some r) (hR : HR g D A s ρ tys ah H locs) (hS : F2 (vrel g ρ) ast st) :
    ∃ (n q i t kind len : Nat) (ups : Als) (d : AV) (cA : ClassId) (en : va_E) (rest : List AV) (vs : List Value) (ws : va_W), va_K D vwCl tys s ∧ va_P D vwCl ws H ∧ va_S A s.heap H locs ∧ st = .int (nI n) :: .ref q :: vs ∧ F2 (vrel g ρ) rest vs ∧ kt kind = true ∧ n < len ∧ len < 2147483648 ∧ ws[i]? = some (q, en) ∧ tys[t]? = some (cA, kty kind) ∧ arel g ρ kind cA len (alk d ups) en ∧ r = alk d ups n :: rest := by
  obtain ⟨hK, ws, e1, hP, hDD, hSS, hW⟩ := hR
  unfold pald at h
  split at h
  · rename_i n i rest
    split at h
    · rename_i w ho
      split at h
      · rename_i hk
        split at h
        · split at h
          · rename_i h1 h2
            obtain ⟨kind, t, len, ups, d⟩ := w
            obtain ⟨v, st1, rfl, hr1, hS1⟩ := F2_cons hS
            obtain ⟨w, vs, rfl, hr2, hS2⟩ := F2_cons hS1
            obtain ⟨q, hq, rfl⟩ := hr2
            obtain ⟨en, hen, cA, ht, ha⟩ := ws_at e1 hW hq ho
            exact ⟨n, q, i, t, kind, len, ups, d, cA, en, rest, vs, ws, hK, hP, hSS, by rw [show v = _ from hr1], hS2, hk, h1, h2, hen, ht, ha, (sj h).symm⟩
          · cases h
        · cases h
      · cases h
    · cases h
  · cases h
def k0 (k : Nat) : Bool := match k with | 0 => true | _ => false
def k1 (k : Nat) : Bool := match k with | 1 => true | _ => false
def k2 (k : Nat) : Bool := match k with | 2 => true | _ => false
def k3 (k : Nat) : Bool := match k with | _ + 3 => true | _ => false
theorem iald_ok (hx : p.tables.exec = Jvm.exec) (hb : c.code = cc) (hR : HR g D A s ρ tys ah H locs) (hS : F2 (vrel g ρ) ast st) (hd : decode cc pc = .ok (.iaload, 1)) {r : List AV} (h : pald k0 ah ast = some r)
    (k : ∀ st', F2 (vrel g ρ) r st' → W p l e R s m args below meth c H locs cells slots Q (F0 m (pc + 1) ls st')) : W p l e R s m args below meth c H locs cells slots Q (F0 m pc ls st) := by
  obtain ⟨n, q, i, t, kind, len, ups, d, cA, en, rest, vs, ws, hK, hP, hSS, rfl, hS2, hk, h1, h2, hen, ht, ha, rfl⟩ := pald_in h hR hS
  match kind, hk, ht, ha with
  | 0, _, ht, ha =>
    obtain ⟨f, rfl, hf⟩ := ha
    refine va_iald (D := D) hx hb hK hP i t hen ht (vp_in_nI h1 h2) hd ?_
    rw [nI_clamp (by omega)]
    exact k _ (F2_mk (hf n h1) hS2)
theorem bald_ok (hx : p.tables.exec = Jvm.exec) (hb : c.code = cc) (hR : HR g D A s ρ tys ah H locs) (hS : F2 (vrel g ρ) ast st) (hd : decode cc pc = .ok (.baload, 1)) {r : List AV} (h : pald k1 ah ast = some r)
    (k : ∀ st', F2 (vrel g ρ) r st' → W p l e R s m args below meth c H locs cells slots Q (F0 m (pc + 1) ls st')) : W p l e R s m args below meth c H locs cells slots Q (F0 m pc ls st) := by
  obtain ⟨n, q, i, t, kind, len, ups, d, cA, en, rest, vs, ws, hK, hP, hSS, rfl, hS2, hk, h1, h2, hen, ht, ha, rfl⟩ := pald_in h hR hS
  match kind, hk, ht, ha with
  | 1, _, ht, ha =>
    obtain ⟨f, rfl, hf⟩ := ha
    refine va_zald (D := D) hx hb hK hP i t hen ht (vp_in_nI h1 h2) hd ?_
    rw [nI_clamp (by omega)]
    exact k _ (F2_mk (hf n h1) hS2)
theorem lald_ok (hx : p.tables.exec = Jvm.exec) (hb : c.code = cc) (hR : HR g D A s ρ tys ah H locs) (hS : F2 (vrel g ρ) ast st) (hd : decode cc pc = .ok (.laload, 1)) {r : List AV} (h : pald k2 ah ast = some r)
    (k : ∀ st', F2 (vrel g ρ) r st' → W p l e R s m args below meth c H locs cells slots Q (F0 m (pc + 1) ls st')) : W p l e R s m args below meth c H locs cells slots Q (F0 m pc ls st) := by
  obtain ⟨n, q, i, t, kind, len, ups, d, cA, en, rest, vs, ws, hK, hP, hSS, rfl, hS2, hk, h1, h2, hen, ht, ha, rfl⟩ := pald_in h hR hS
  match kind, hk, ht, ha with
  | 2, _, ht, ha =>
    obtain ⟨f, rfl, hf⟩ := ha
    refine va_lald (D := D) hx hb hK hP i t hen ht (vp_in_nI h1 h2) hd ?_
    rw [nI_clamp (by omega)]
    exact k _ (F2_mk (hf n h1) hS2)
theorem aald_ok (hx : p.tables.exec = Jvm.exec) (hb : c.code = cc) (hR : HR g D A s ρ tys ah H locs) (hS : F2 (vrel g ρ) ast st) (hd : decode cc pc = .ok (.aaload, 1)) {r : List AV} (h : pald k3 ah ast = some r)
    (k : ∀ st', F2 (vrel g ρ) r st' → W p l e R s m args below meth c H locs cells slots Q (F0 m (pc + 1) ls st')) : W p l e R s m args below meth c H locs cells slots Q (F0 m pc ls st) := by
  obtain ⟨n, q, i, t, kind, len, ups, d, cA, en, rest, vs, ws, hK, hP, hSS, rfl, hS2, hk, h1, h2, hen, ht, ha, rfl⟩ := pald_in h hR hS
  match kind, hk, ht, ha with
  | kk + 3, _, ht, ha =>
    obtain ⟨f, rfl, hf⟩ := ha
    refine va_aldq (D := D) hx hb hK hP i t hen ht (vp_in_nI h1 h2) hd ?_
    rw [nI_clamp (by omega)]
    exact k _ (F2_mk (hf n h1) hS2)
theorem past_in {kt : Nat → AV → Bool} {r : List AC × List AV} (h : past kt ah ast = some r) (hR : HR g D A s ρ tys ah H locs) (hS : F2 (vrel g ρ) ast st) :
    ∃ (a : AV) (v : Value) (n q i t kind len : Nat) (ups : Als) (d : AV) (cA : ClassId) (en : va_E) (rest : List AV) (vs : List Value) (ws : va_W), va_K D vwCl tys s ∧ ρ = ws.map Prod.fst ∧ va_P D vwCl ws H ∧ va_D A ws ∧ va_S A s.heap H locs ∧ F2 (fun (c : AC) (q : Nat × va_E) => crel g ρ tys c q.2) ah ws ∧
      st = v :: .int (nI n) :: .ref q :: vs ∧ vrel g ρ a v ∧ F2 (vrel g ρ) rest vs ∧ kt kind a = true ∧ n < len ∧ len < 2147483648 ∧ ws[i]? = some (q, en) ∧ tys[t]? = some (cA, kty kind) ∧ arel g ρ kind cA len (alk d ups) en ∧ r = (ah.set i (.inr (kind, t, len, (n, a) :: ups, d)), rest) := by
  obtain ⟨hK, ws, e1, hP, hDD, hSS, hW⟩ := hR
  unfold past at h
  split at h
  · rename_i a n i rest
    split at h
    · rename_i w ho
      split at h
      · rename_i hk
        split at h
        · split at h
          · rename_i h1 h2
            obtain ⟨kind, t, len, ups, d⟩ := w
            obtain ⟨v0, st0, rfl, hr0, hS0⟩ := F2_cons hS
            obtain ⟨v, st1, rfl, hr1, hS1⟩ := F2_cons hS0
            obtain ⟨w, vs, rfl, hr2, hS2⟩ := F2_cons hS1
            obtain ⟨q, hq, rfl⟩ := hr2
            obtain ⟨en, hen, cA, ht, ha⟩ := ws_at e1 hW hq ho
            exact ⟨a, v0, n, q, i, t, kind, len, ups, d, cA, en, rest, vs, ws, hK, e1, hP, hDD, hSS, hW, by rw [show v = _ from hr1], hr0, hS2, hk, h1, h2, hen, ht, ha, (sj h).symm⟩
          · cases h
        · cases h
      · cases h
    · cases h
  · cases h
/-- the world with one array's content changed -/
theorem HR_set {ws : va_W} {q i t kind len n : Nat} {ups : Als} {d a : AV} {cA : ClassId} {en en' : va_E} {H1 : Heap} {locs1 : List Loc} (hK : va_K D vwCl tys s) (e1 : ρ = ws.map Prod.fst) (hW : F2 (fun (c : AC) (q : Nat × va_E) => crel g ρ tys c q.2) ah ws) (hen : ws[i]? = some (q, en)) (ht : tys[t]? = some (cA, kty kind)) (ha : arel g ρ kind cA len (alk d ((n, a) :: ups)) en')
    (hP1 : va_P D vwCl (ws.set i (q, en')) H1) (hD1 : va_D A (ws.set i (q, en'))) (hS1 : va_S A s.heap H1 locs1) : HR g D A s ρ tys (ah.set i (.inr (kind, t, len, (n, a) :: ups, d))) H1 locs1 :=
  ⟨hK, ws.set i (q, en'), by rw [set_fst hen]; exact e1, hP1, hD1, hS1, F2_set hW i ⟨cA, ht, ha⟩⟩
def s0 (k : Nat) (a : AV) : Bool := match k with | 0 => isI a | _ => false
def s1 (k : Nat) (a : AV) : Bool := match k with | 1 => fitk 1 a | _ => false
def s2 (k : Nat) (a : AV) : Bool := match k with | 2 => fitk 3 a | _ => false
theorem iast_ok (hx : p.tables.exec = Jvm.exec) (hb : c.code = cc) (hR : HR g D A s ρ tys ah H locs) (hS : F2 (vrel g ρ) ast st) (hd : decode cc pc = .ok (.iastore, 1)) {r : List AC × List AV} (h : past s0 ah ast = some r)
    (k : ∀ (H' : Heap) (locs' : List Loc) st', HR g D A s ρ tys r.1 H' locs' → F2 (vrel g ρ) r.2 st' → W p l e R s m args below meth c H' locs' cells slots Q (F0 m (pc + 1) ls st')) : W p l e R s m args below meth c H locs cells slots Q (F0 m pc ls st) := by
  obtain ⟨a, v, n, q, i, t, kind, len, ups, d, cA, en, rest, vs, ws, hK, e1, hP, hDD, hSS, hW, rfl, hr, hS2, hk, h1, h2, hen, ht, ha, rfl⟩ := past_in h hR hS
  match kind, hk, ht, ha with
  | 0, hk, ht, ha =>
    obtain ⟨x, rfl⟩ := vint hk hr
    obtain ⟨f, rfl, hf⟩ := ha
    refine va_iast (D := D) hx hb hK hP hDD hSS i t hen ht (vp_in_nI h1 h2) hd (fun H1 locs1 hP1 hD1 hS1 => ?_)
    rw [nI_clamp (by omega)] at hP1 hD1
    refine k H1 locs1 vs (HR_set (kind := 0) hK e1 hW hen ht ⟨_, rfl, fun j hj => ?_⟩ hP1 hD1 hS1) hS2
    by_cases hjn : j = n
    · subst hjn; rw [alk_here, pk_us]; exact hr
    · rw [alk_there _ _ _ hjn, pk_un hjn]; exact hf j hj
theorem bast_ok (hx : p.tables.exec = Jvm.exec) (hb : c.code = cc) (hR : HR g D A s ρ tys ah H locs) (hS : F2 (vrel g ρ) ast st) (hd : decode cc pc = .ok (.bastore, 1)) {r : List AC × List AV} (h : past s1 ah ast = some r)
    (k : ∀ (H' : Heap) (locs' : List Loc) st', HR g D A s ρ tys r.1 H' locs' → F2 (vrel g ρ) r.2 st' → W p l e R s m args below meth c H' locs' cells slots Q (F0 m (pc + 1) ls st')) : W p l e R s m args below meth c H locs cells slots Q (F0 m pc ls st) := by
  obtain ⟨a, v, n, q, i, t, kind, len, ups, d, cA, en, rest, vs, ws, hK, e1, hP, hDD, hSS, hW, rfl, hr, hS2, hk, h1, h2, hen, ht, ha, rfl⟩ := past_in h hR hS
  match kind, hk, ht, ha with
  | 1, hk, ht, ha =>
    obtain ⟨x, rfl⟩ := vint (show isI a = true by
      match a, hk with
      | .inl 0, _ => rfl
      | .inl 1, _ => rfl) hr
    obtain ⟨f, rfl, hf⟩ := ha
    refine va_zast (D := D) hx hb hK hP hDD hSS i t hen ht (vp_in_nI h1 h2) hd (fun H1 locs1 hP1 hD1 hS1 => ?_)
    rw [nI_clamp (by omega), vp_nar_01 hk hr] at hP1 hD1
    refine k H1 locs1 vs (HR_set (kind := 1) hK e1 hW hen ht ⟨_, rfl, fun j hj => ?_⟩ hP1 hD1 hS1) hS2
    by_cases hjn : j = n
    · subst hjn; rw [alk_here, pk_us]; exact hr
    · rw [alk_there _ _ _ hjn, pk_un hjn]; exact hf j hj
theorem last_ok (hx : p.tables.exec = Jvm.exec) (hb : c.code = cc) (hR : HR g D A s ρ tys ah H locs) (hS : F2 (vrel g ρ) ast st) (hd : decode cc pc = .ok (.lastore, 1)) {r : List AC × List AV} (h : past s2 ah ast = some r)
    (k : ∀ (H' : Heap) (locs' : List Loc) st', HR g D A s ρ tys r.1 H' locs' → F2 (vrel g ρ) r.2 st' → W p l e R s m args below meth c H' locs' cells slots Q (F0 m (pc + 1) ls st')) : W p l e R s m args below meth c H locs cells slots Q (F0 m pc ls st) := by
  obtain ⟨a, v, n, q, i, t, kind, len, ups, d, cA, en, rest, vs, ws, hK, e1, hP, hDD, hSS, hW, rfl, hr, hS2, hk, h1, h2, hen, ht, ha, rfl⟩ := past_in h hR hS
  match kind, hk, ht, ha with
  | 2, hk, ht, ha =>
    obtain ⟨x, rfl⟩ : ∃ x, v = .long x := by
      match a, hk, hr with
      | .inr (.inr (.inr (.inl (some n)))), _, hr => exact ⟨_, hr⟩
    obtain ⟨f, rfl, hf⟩ := ha
    refine va_last (D := D) hx hb hK hP hDD hSS i t hen ht (vp_in_nI h1 h2) hd (fun H1 locs1 hP1 hD1 hS1 => ?_)
    rw [nI_clamp (by omega)] at hP1 hD1
    refine k H1 locs1 vs (HR_set (kind := 2) hK e1 hW hen ht ⟨_, rfl, fun j hj => ?_⟩ hP1 hD1 hS1) hS2
    by_cases hjn : j = n
    · subst hjn; rw [alk_here, pk_uLs]; exact hr
    · rw [alk_there _ _ _ hjn, pk_uLn hjn]; exact hf j hj
/-- the classes whose objects go into rows of objects -/
def aok (ah : List AC) (k : Nat) (a : AV) : Bool :=
  match k with
  | kk + 3 => match isN a with
    | true => true
    | false => match a with
      | .inr (.inr (.inl j)) => match ah[j]? with
        | some (.inl o) => match kk with
          | 0 => Nat.beq o.1 17
          | _ => Nat.beq o.1 17 || Nat.beq o.1 15 || Nat.beq o.1 14
        | _ => false
      | _ => false
  | _ => false
def EOK (s : State) : Prop := ∀ (cj : Nat) (r : vw_C), vwCl[cj]? = some r → (cj = 17 ∨ cj = 15 ∨ cj = 14) → va_Nw (.castable r.1 "java/lang/Object") s
theorem aast_ok (hx : p.tables.exec = Jvm.exec) (hb : c.code = cc) (hE : EOK s) (hR : HR g D A s ρ tys ah H locs) (hS : F2 (vrel g ρ) ast st) (hd : decode cc pc = .ok (.aastore, 1)) {r : List AC × List AV} (h : past (aok ah) ah ast = some r)
    (k : ∀ (H' : Heap) (locs' : List Loc) st', HR g D A s ρ tys r.1 H' locs' → F2 (vrel g ρ) r.2 st' → W p l e R s m args below meth c H' locs' cells slots Q (F0 m (pc + 1) ls st')) : W p l e R s m args below meth c H locs cells slots Q (F0 m pc ls st) := by
  obtain ⟨a, v, n, q, i, t, kind, len, ups, d, cA, en, rest, vs, ws, hK, e1, hP, hDD, hSS, hW, rfl, hr, hS2, hk, h1, h2, hen, ht, ha, rfl⟩ := past_in h hR hS
  match kind, hk, ht, ha with
  | kk + 3, hk, ht, ha =>
    obtain ⟨f, rfl, hf⟩ := ha
    have fin : ∀ (o : Option Nat) (H1 : Heap) (locs1 : List Loc), vrel g ρ a (va_rf o) → va_P D vwCl (ws.set i (q, .inl (cA, len, .inr (.inr (.inr (.inr (va_up f n o))))))) H1 → va_D A (ws.set i (q, .inl (cA, len, .inr (.inr (.inr (.inr (va_up f n o))))))) → va_S A s.heap H1 locs1 → W p l e R s m args below meth c H1 locs1 cells slots Q (F0 m (pc + 1) ls vs) := by
      intro o H1 locs1 ho hP1 hD1 hS1
      refine k H1 locs1 vs (HR_set (kind := kk + 3) hK e1 hW hen ht ⟨_, rfl, fun j hj => ?_⟩ hP1 hD1 hS1) hS2
      by_cases hjn : j = n
      · subst hjn; rw [alk_here, show va_up f j o j = o from if_pos rfl]; exact ho
      · rw [alk_there _ _ _ hjn, show va_up f n o j = f j from if_neg hjn]; exact hf j hj
    cases hN : isN a with
    | true =>
      have e := vnul hN hr
      subst e
      refine va_astqN (D := D) hx hb hK hP hDD hSS i t hen ht (vp_in_nI h1 h2) hd (fun H1 locs1 hP1 hD1 hS1 => ?_)
      rw [nI_clamp (by omega)] at hP1 hD1
      exact fin none H1 locs1 hr hP1 hD1 hS1
    | false =>
      unfold aok at hk
      simp only [hN] at hk
      split at hk
      · rename_i j _
        split at hk
        · rename_i o ho
          obtain ⟨qv, hqv, rfl⟩ := hr
          obtain ⟨ev, hev, vs0, hvs0, rfl⟩ := ws_at e1 hW hqv ho
          have hr' : vrel g ρ (.inr (.inr (.inl j))) (va_rf (some qv)) := ⟨qv, hqv, rfl⟩
          match kk, hk, ht, fin with
          | 0, hk, ht, fin =>
            have hk := Nat.eq_of_beq_eq_true hk
            rw [hk] at hev
            refine va_astq (D := D) (r := (RX16, TX16, 6)) hx hb hK hP hDD hSS i t j 17 hen ht hev rfl (vp_in_nI h1 h2) hd (fun H1 locs1 hP1 hD1 hS1 => ?_)
            rw [nI_clamp (by omega)] at hP1 hD1
            exact fin (some qv) H1 locs1 hr' hP1 hD1 hS1
          | kk + 1, hk, ht, fin =>
            have hk : (Nat.beq o.1 17 || Nat.beq o.1 15 || Nat.beq o.1 14) = true := hk
            have hk2 : o.1 = 17 ∨ o.1 = 15 ∨ o.1 = 14 := by
              simp only [Bool.or_eq_true] at hk
              rcases hk with (hk | hk) | hk
              · exact Or.inl (Nat.eq_of_beq_eq_true hk)
              · exact Or.inr (Or.inl (Nat.eq_of_beq_eq_true hk))
              · exact Or.inr (Or.inr (Nat.eq_of_beq_eq_true hk))
            obtain ⟨rr, hrr⟩ : ∃ rr, vwCl[o.1]? = some rr := by
              rcases hk2 with e | e | e <;> rw [e] <;> exact ⟨_, rfl⟩
            refine va_astqO (D := D) (r := rr) hx hb hK hP hDD hSS i t j o.1 hen ht (hE o.1 rr hrr hk2) hev hrr (vp_in_nI h1 h2) hd (fun H1 locs1 hP1 hD1 hS1 => ?_)
            rw [nI_clamp (by omega)] at hP1 hD1
            exact fin (some qv) H1 locs1 hr' hP1 hD1 hS1
        · cases hk
      · cases hk
theorem alen_ok (hx : p.tables.exec = Jvm.exec) (hb : c.code = cc) (hT : ∃ (ty : FieldType) (f : Nat → Value), va_T ty g.2.2 0 f A s s.heap) (hR : HR g D A s ρ tys ah H locs) (hS : F2 (vrel g ρ) ast st) (hd : decode cc pc = .ok (.arraylength, 1)) {r : List AV} (h : palen ah ast = some r)
    (k : ∀ st', F2 (vrel g ρ) r st' → W p l e R s m args below meth c H locs cells slots Q (F0 m (pc + 1) ls st')) : W p l e R s m args below meth c H locs cells slots Q (F0 m pc ls st) := by
  obtain ⟨hK, ws, e1, hP, hDD, hSS, hW⟩ := hR
  unfold palen at h
  split at h
  · rename_i i rest
    split at h
    · rename_i w ho
      obtain ⟨kind, t, len, ups, d⟩ := w
      have h := sj h
      subst h
      obtain ⟨v, vs, rfl, hr2, hS2⟩ := F2_cons hS
      obtain ⟨q, hq, rfl⟩ := hr2
      obtain ⟨en, hen, cA, ht, ha⟩ := ws_at e1 hW hq ho
      obtain ⟨x, rfl, hx1⟩ : ∃ x : vp_A, en = .inl (cA, x) ∧ x.1 = len := by
        match kind, ha with
        | 0, ha => obtain ⟨f, h1, -⟩ := ha; exact ⟨_, h1, rfl⟩
        | 1, ha => obtain ⟨f, h1, -⟩ := ha; exact ⟨_, h1, rfl⟩
        | 2, ha => obtain ⟨f, h1, -⟩ := ha; exact ⟨_, h1, rfl⟩
        | _ + 3, ha => obtain ⟨f, h1, -⟩ := ha; exact ⟨_, h1, rfl⟩
      exact va_alen (D := D) (v := nI len) hx hb hK hP i t hen ht (by rw [hx1]; rfl) hd (k _ (F2_mk rfl hS2))
    · cases h
  · have h := sj h
    subst h
    obtain ⟨v, vs, rfl, hr2, hS2⟩ := F2_cons hS
    rw [show v = .ref g.2.2 from hr2]
    obtain ⟨ty, f, hT⟩ := hT
    exact va_tlen (v := nI 0) hx hb hT hSS rfl hd (k _ (F2_mk rfl hS2))
  · cases h
end AOK
