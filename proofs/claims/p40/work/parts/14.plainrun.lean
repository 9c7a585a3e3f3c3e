section OK2
variable {p : Program} {l : Launch} {e : Env} {R : Room} {s : State} {m : MethodId} {args : Array Value} {below : List Frame} {meth : Method} {c : Code} {H : Heap} {locs : List Loc} {cells slots : Nat} {Q : State → Prop} {cc : ByteArray} {pc : Nat} {ls : Array Slot} {st : List Value}
variable {g : GV} {ρ : List Nat} {bnd : List (Nat × Nat)} {msk nL : Nat} {als : Als} {ast : List AV} {r : Nat × Als × List AV}
theorem rn_ok {a : AV} {v : Value} (h : isRN a = true) (hr : vrel g ρ a v) : v = .null ∨ ∃ x, v = .ref x := by
  unfold isRN at h
  cases u : isR a with
  | true => exact Or.inr (vref u hr)
  | false => rw [u] at h; exact Or.inl (vnul (by simpa using h) hr)
theorem cmp2_ok (hB : Bd g bnd) {cd : Jvm.ClassFile.Cond} {a b : AV} {v w : Value} {q : Bool} (h : cmp2 bnd cd a b = some q) (ha : vrel g ρ a v) (hb : vrel g ρ b w) : ∃ x y, v = .int x ∧ w = .int y ∧ (cprop cd x y ↔ q = true) := by
  unfold cmp2 at h
  cases e1 : ivl bnd a with
  | none => rw [e1] at h; cases h
  | some i =>
    rw [e1] at h
    cases e2 : ivl bnd b with
    | none => simp only [e2] at h; cases h
    | some j =>
      simp only [e2] at h
      obtain ⟨x, rfl, hx⟩ := ivl_ok hB e1 ha
      obtain ⟨y, rfl, hy⟩ := ivl_ok hB e2 hb
      exact ⟨x, y, rfl, rfl, icmp_ok hx hy h⟩
theorem icmp_row (hx : p.tables.exec = Jvm.exec) (hb : c.code = cc) {cd : Jvm.ClassFile.Cond} {o : Int} (hd : decode cc pc = .ok (.if_icmp cd o, 3)) {x y : Int32} {q : Bool} (hq : cprop cd x y ↔ q = true) {rest : List Value} {t : Nat} (ht : (pc : Int) + o = (t : Int))
    (kt : q = true → W p l e R s m args below meth c H locs cells slots Q (F0 m t ls rest)) (kf : q = false → W p l e R s m args below meth c H locs cells slots Q (F0 m (pc + 3) ls rest)) : W p l e R s m args below meth c H locs cells slots Q (F0 m pc ls (.int y :: .int x :: rest)) := by
  have nf : ¬ cprop cd x y → q = false := fun h => by
    cases q with
    | true => exact absurd (hq.mpr rfl) h
    | false => rfl
  by_cases hc : cprop cd x y
  · have kt := kt (hq.mp hc)
    cases cd with
    | eq => exact lv_icmp_eq hx hb hd ht (fun _ => kt) (fun h => absurd hc h)
    | ne => exact lv_icmp_ne hx hb hd ht (fun _ => kt) (fun h => absurd h hc)
    | lt => exact lv_icmp_lt hx hb hd ht (fun _ => kt) (fun h => absurd hc h)
    | ge => exact lv_icmp_ge hx hb hd ht (fun _ => kt) (fun h => absurd hc h)
    | gt => exact lv_icmp_gt hx hb hd ht (fun _ => kt) (fun h => absurd hc h)
    | le => exact lv_icmp_le hx hb hd ht (fun _ => kt) (fun h => absurd hc h)
  · have kf := kf (nf hc)
    cases cd with
    | eq => exact lv_icmp_eq hx hb hd ht (fun h => absurd h hc) (fun _ => kf)
    | ne => exact lv_icmp_ne hx hb hd ht (fun h => absurd h hc) (fun _ => kf)
    | lt => exact lv_icmp_lt hx hb hd ht (fun h => absurd h hc) (fun _ => kf)
    | ge => exact lv_icmp_ge hx hb hd ht (fun h => absurd h hc) (fun _ => kf)
    | gt => exact lv_icmp_gt hx hb hd ht (fun h => absurd h hc) (fun _ => kf)
    | le => exact lv_icmp_le hx hb hd ht (fun h => absurd h hc) (fun _ => kf)
theorem if_row (hx : p.tables.exec = Jvm.exec) (hb : c.code = cc) {cd : Jvm.ClassFile.Cond} {o : Int} (hd : decode cc pc = .ok (.ifCond cd o, 3)) {x : Int32} {q : Bool} (hq : cprop cd x 0 ↔ q = true) {rest : List Value} {t : Nat} (ht : (pc : Int) + o = (t : Int))
    (kt : q = true → W p l e R s m args below meth c H locs cells slots Q (F0 m t ls rest)) (kf : q = false → W p l e R s m args below meth c H locs cells slots Q (F0 m (pc + 3) ls rest)) : W p l e R s m args below meth c H locs cells slots Q (F0 m pc ls (.int x :: rest)) := by
  have nf : ¬ cprop cd x 0 → q = false := fun h => by
    cases q with
    | true => exact absurd (hq.mpr rfl) h
    | false => rfl
  by_cases hc : cprop cd x 0
  · have kt := kt (hq.mp hc)
    cases cd with
    | eq => exact lv_if_eq hx hb hd ht (fun _ => kt) (fun h => absurd hc h)
    | ne => exact lv_if_ne hx hb hd ht (fun _ => kt) (fun h => absurd h hc)
    | lt => exact lv_if_lt hx hb hd ht (fun _ => kt) (fun h => absurd hc h)
    | ge => exact lv_if_ge hx hb hd ht (fun _ => kt) (fun h => absurd hc h)
    | gt => exact lv_if_gt hx hb hd ht (fun _ => kt) (fun h => absurd hc h)
    | le => exact lv_if_le hx hb hd ht (fun _ => kt) (fun h => absurd hc h)
  · have kf := kf (nf hc)
    cases cd with
    | eq => exact lv_if_eq hx hb hd ht (fun h => absurd h hc) (fun _ => kf)
    | ne => exact lv_if_ne hx hb hd ht (fun h => absurd h hc) (fun _ => kf)
    | lt => exact lv_if_lt hx hb hd ht (fun h => absurd h hc) (fun _ => kf)
    | ge => exact lv_if_ge hx hb hd ht (fun h => absurd h hc) (fun _ => kf)
    | gt => exact lv_if_gt hx hb hd ht (fun h => absurd h hc) (fun _ => kf)
    | le => exact lv_if_le hx hb hd ht (fun h => absurd h hc) (fun _ => kf)
theorem ineg_ok (a : Nat) : - nI a = nI ((4294967296 - a % 4294967296) % 4294967296) := by
  apply nI_of_tn
  have h : (- nI a).toBitVec = - (nI a).toBitVec := rfl
  rw [h, BitVec.toNat_neg, nI_tn, Nat.mod_mod]
theorem iushr_ok (a b : Nat) : ((nI a).toUInt32 >>> ((nI b).toUInt32 &&& Int32.toUInt32 31)).toInt32 = nI (a % 4294967296 / 2 ^ (b % 32)) := by
  apply nI_of_tn
  have h1 : ((nI a).toUInt32 >>> ((nI b).toUInt32 &&& Int32.toUInt32 31)).toInt32.toBitVec.toNat = ((nI a).toUInt32 >>> ((nI b).toUInt32 &&& Int32.toUInt32 31)).toNat := rfl
  have h2 : (nI a).toUInt32.toNat = a % 4294967296 := nI_tn a
  have h3 : ((nI b).toUInt32 &&& Int32.toUInt32 31).toNat = b % 32 := by
    rw [UInt32.toNat_and]
    have e : (nI b).toUInt32.toNat = b % 4294967296 := nI_tn b
    have e2 : (Int32.toUInt32 31).toNat = 2 ^ 5 - 1 := by decide
    rw [e, e2, Nat.and_two_pow_sub_one_eq_mod]
    omega
  rw [h1, UInt32.toNat_shiftRight, h2, h3, Nat.mod_mod, Nat.shiftRight_eq_div_pow]
  exact (Nat.mod_eq_of_lt (Nat.lt_of_le_of_lt (Nat.div_le_self _ _) (Nat.mod_lt _ (by decide)))).symm
theorem and_cases {a b : Bool} (h : (a && b) = true) : a = true ∧ b = true := by simpa using h
set_option maxHeartbeats 1000000 in
theorem ps1_ok (hx : p.tables.exec = Jvm.exec) (hb : c.code = cc) (hB : Bd g bnd) (hM : msk < 64 → ∀ x, g.1[0]? = some x → x &&& 63 = nI msk) (hL : LR g ρ nL als ls) (hS : F2 (vrel g ρ) ast st) (ins : Instr) (hd : decode cc pc = .ok (ins, ilen ins)) (h : ps1 bnd msk nL ins pc als ast = some r)
    (k : ∀ ls' st', LR g ρ nL r.2.1 ls' → F2 (vrel g ρ) r.2.2 st' → W p l e R s m args below meth c H locs cells slots Q (F0 m r.1 ls' st')) : W p l e R s m args below meth c H locs cells slots Q (F0 m pc ls st) := by
  cases ins
  case iconst n =>
    have h := sj h
    subst h
    exact lv_iconst hx hb hd (i2n_ok n) (k ls _ hL (F2_mk rfl hS))
  case bipush n =>
    have h : (if -128 ≤ n then (if n < 128 then some (pc + 2, als, (.inl (i2n n) : AV) :: ast) else none) else none) = some r := h
    split at h
    · split at h
      · have h := sj h
        subst h
        exact lv_bipush hx hb hd (bi_ok (by assumption) (by assumption)) (k ls _ hL (F2_mk rfl hS))
      · cases h
    · cases h
  case sipush n =>
    have h : (if -32768 ≤ n then (if n < 32768 then some (pc + 3, als, (.inl (i2n n) : AV) :: ast) else none) else none) = some r := h
    split at h
    · split at h
      · have h := sj h
        subst h
        exact lv_sipush hx hb hd (si_ok (by assumption) (by assumption)) (k ls _ hL (F2_mk rfl hS))
      · cases h
    · cases h
  case aconst_null =>
    have h := sj h
    subst h
    exact lv_null hx hb hd (k ls _ hL (F2_mk rfl hS))
  case iload_n i =>
    obtain ⟨a, h1, h2, h3⟩ := pld_ok h
    subst h3
    obtain ⟨v, hv, hr⟩ := LR_at hL h1
    obtain ⟨x, rfl⟩ := vint h2 hr
    exact lv_iload_n hx hb hd rfl hv (k ls _ hL (F2_mk hr hS))
  case iload i =>
    obtain ⟨a, h1, h2, h3⟩ := pld_ok h
    subst h3
    obtain ⟨v, hv, hr⟩ := LR_at hL h1
    obtain ⟨x, rfl⟩ := vint h2 hr
    exact lv_iload hx hb hd hv (k ls _ hL (F2_mk hr hS))
  case aload_n i =>
    obtain ⟨a, h1, h2, h3⟩ := pld_ok h
    subst h3
    obtain ⟨v, hv, hr⟩ := LR_at hL h1
    rcases rn_ok h2 hr with rfl | ⟨x, rfl⟩
    · exact lv_aload_nN hx hb hd rfl hv (k ls _ hL (F2_mk hr hS))
    · exact lv_aload_n hx hb hd rfl hv (k ls _ hL (F2_mk hr hS))
  case aload i =>
    obtain ⟨a, h1, h2, h3⟩ := pld_ok h
    subst h3
    obtain ⟨v, hv, hr⟩ := LR_at hL h1
    rcases rn_ok h2 hr with rfl | ⟨x, rfl⟩
    · exact lv_aloadN hx hb hd hv (k ls _ hL (F2_mk hr hS))
    · exact lv_aload hx hb hd hv (k ls _ hL (F2_mk hr hS))
  case istore_n i =>
    obtain ⟨a, rest, rfl, h1, h2, h3⟩ := pst_ok h
    subst h3
    obtain ⟨v, vs, rfl, hr, hS1⟩ := F2_cons hS
    obtain ⟨x, rfl⟩ := vint h1 hr
    obtain ⟨lv, hl, hF⟩ := hL
    exact lv_istore_n hx hb hd rfl hl h2 rfl (fun ls' hl' => k ls' _ ⟨_, hl', LR_st hF _ hr⟩ hS1)
  case istore i =>
    obtain ⟨a, rest, rfl, h1, h2, h3⟩ := pst_ok h
    subst h3
    obtain ⟨v, vs, rfl, hr, hS1⟩ := F2_cons hS
    obtain ⟨x, rfl⟩ := vint h1 hr
    obtain ⟨lv, hl, hF⟩ := hL
    exact lv_istore hx hb hd hl h2 rfl (fun ls' hl' => k ls' _ ⟨_, hl', LR_st hF _ hr⟩ hS1)
  case astore_n i =>
    obtain ⟨a, rest, rfl, h1, h2, h3⟩ := pst_ok h
    subst h3
    obtain ⟨v, vs, rfl, hr, hS1⟩ := F2_cons hS
    obtain ⟨lv, hl, hF⟩ := hL
    rcases rn_ok h1 hr with rfl | ⟨x, rfl⟩
    · exact lv_astore_nN hx hb hd rfl hl h2 rfl (fun ls' hl' => k ls' _ ⟨_, hl', LR_st hF _ hr⟩ hS1)
    · exact lv_astore_n hx hb hd rfl hl h2 rfl (fun ls' hl' => k ls' _ ⟨_, hl', LR_st hF _ hr⟩ hS1)
  case astore i =>
    obtain ⟨a, rest, rfl, h1, h2, h3⟩ := pst_ok h
    subst h3
    obtain ⟨v, vs, rfl, hr, hS1⟩ := F2_cons hS
    obtain ⟨lv, hl, hF⟩ := hL
    rcases rn_ok h1 hr with rfl | ⟨x, rfl⟩
    · exact lv_astoreN hx hb hd hl h2 rfl (fun ls' hl' => k ls' _ ⟨_, hl', LR_st hF _ hr⟩ hS1)
    · exact lv_astore hx hb hd hl h2 rfl (fun ls' hl' => k ls' _ ⟨_, hl', LR_st hF _ hr⟩ hS1)
  case iinc i cst =>
    have h : (match (generalizing := false) llk als i with
      | some (.inl n) => if i < nL then some (pc + 3, lst als i (.inl ((n + i2n cst) % 4294967296)), ast) else none
      | _ => none) = some r := h
    split at h
    · rename_i n he
      split at h
      · have h := sj h
        subst h
        obtain ⟨lv, hl, hF⟩ := hL
        obtain ⟨kx, hk⟩ := llk_mem he
        obtain ⟨q, hq, e1, hr⟩ := F2_get hF hk
        obtain ⟨q1, q2⟩ := q
        have e1 : i = q1 := e1
        subst e1
        have hr : q2 = .int (nI n) := hr
        subst hr
        exact lv_iinc (v := nI ((n + i2n cst) % 4294967296)) hx hb hd hl hq (by rw [i2n_ok, nI_addG]) (by assumption) rfl (fun ls' hl' => k ls' _ ⟨_, hl', LR_st hF _ rfl⟩ hS)
      · cases h
    · cases h
  case iadd =>
    exact ar2_ok (fun x y => x + y) h (fun a b => by show _ = _; rw [nI_addG]) hS (fun x y rest kk => lv_iadd hx hb hd kk) (fun st' e1 e2 hS' => by have := k ls st' (by rw [e2]; exact hL) hS'; rw [e1] at this; exact this)
  case isub =>
    exact ar2_ok (fun x y => x - y) h (fun a b => by show _ = _; rw [nI_subG]) hS (fun x y rest kk => lv_isub hx hb hd kk) (fun st' e1 e2 hS' => by have := k ls st' (by rw [e2]; exact hL) hS'; rw [e1] at this; exact this)
  case imul =>
    exact ar2_ok (fun x y => x * y) h (fun a b => by show _ = _; rw [nI_mulG]) hS (fun x y rest kk => lv_imul hx hb hd kk) (fun st' e1 e2 hS' => by have := k ls st' (by rw [e2]; exact hL) hS'; rw [e1] at this; exact this)
  case ior =>
    exact ar2_ok (fun x y => x ||| y) h (fun a b => by show _ = _; rw [or_ok]) hS (fun x y rest kk => lv_ior hx hb hd kk) (fun st' e1 e2 hS' => by have := k ls st' (by rw [e2]; exact hL) hS'; rw [e1] at this; exact this)
  case ixor =>
    exact ar2_ok (fun x y => x ^^^ y) h (fun a b => by show _ = _; rw [xor_ok]) hS (fun x y rest kk => lv_ixor hx hb hd kk) (fun st' e1 e2 hS' => by have := k ls st' (by rw [e2]; exact hL) hS'; rw [e1] at this; exact this)
  case ishl =>
    exact ar2_ok (fun x y => x <<< (y &&& 31)) h (fun a b => by show _ = _; rw [shl_ok]) hS (fun x y rest kk => lv_ishl hx hb hd kk) (fun st' e1 e2 hS' => by have := k ls st' (by rw [e2]; exact hL) hS'; rw [e1] at this; exact this)
  case ishr =>
    refine ar2_ok (fun x y => x >>> (y &&& 31)) h (fun a b => ?_) hS (fun x y rest kk => lv_ishr hx hb hd kk) (fun st' e1 e2 hS' => by have := k ls st' (by rw [e2]; exact hL) hS'; rw [e1] at this; exact this)
    by_cases ha : a < 2147483648
    · rw [if_pos ha]; show _ = _; rw [shr_ok ha]
    · rw [if_neg ha]; exact ⟨_, rfl⟩
  case iand =>
    have hand := fun (h : ar2 (fun a b => .inl (a % 4294967296 &&& b % 4294967296)) (pc + 1) als ast = some r) =>
      ar2_ok (p := p) (l := l) (e := e) (R := R) (s := s) (m := m) (args := args) (below := below) (meth := meth) (c := c) (H := H) (locs := locs) (cells := cells) (slots := slots) (Q := Q) (pc := pc) (ls := ls) (g := g) (ρ := ρ) (fun x y => x &&& y) h (fun a b => by show _ = _; rw [and_ok]) hS (fun x y rest kk => lv_iand hx hb hd kk) (fun st' e1 e2 hS' => by have := k ls st' (by rw [e2]; exact hL) hS'; rw [e1] at this; exact this)
    have h : (match (generalizing := false) ast with
      | .inl 63 :: .inr (.inl 0) :: rest => if msk < 64 then some (pc + 1, als, (.inl msk : AV) :: rest) else none
      | _ => ar2 (fun a b => .inl (a % 4294967296 &&& b % 4294967296)) (pc + 1) als ast) = some r := h
    split at h
    · split at h
      · rename_i hmk
        have h := sj h
        subst h
        obtain ⟨v, st1, rfl, h1, hS1⟩ := F2_cons hS
        obtain ⟨w, st2, rfl, h2, hS2⟩ := F2_cons hS1
        obtain ⟨x, hx0, rfl⟩ := h2
        rw [show v = .int 63 from h1]
        refine lv_iand hx hb hd ?_
        rw [hM hmk x hx0]
        exact k ls _ hL (F2_mk rfl hS2)
      · cases h
    · exact hand h
  case iushr =>
    exact ar2_ok (fun x y => (x.toUInt32 >>> (y.toUInt32 &&& Int32.toUInt32 31)).toInt32) h (fun a b => by show _ = _; rw [iushr_ok]) hS (fun x y rest kk => lv_iushr hx hb hd rfl kk) (fun st' e1 e2 hS' => by have := k ls st' (by rw [e2]; exact hL) hS'; rw [e1] at this; exact this)
  case ineg =>
    have h : (match (generalizing := false) ast with
      | .inl a :: rest => some (pc + 1, als, (.inl ((4294967296 - a % 4294967296) % 4294967296) : AV) :: rest)
      | _ => none) = some r := h
    split at h
    · rename_i a rest
      have h := sj h
      subst h
      obtain ⟨v, st1, rfl, hb1, hS1⟩ := F2_cons hS
      rw [show v = _ from hb1]
      refine lv_ineg hx hb hd ?_
      rw [ineg_ok]
      exact k ls _ hL (F2_mk rfl hS1)
    · cases h
  case idiv =>
    have h : (match (generalizing := false) ast with
      | .inl b :: .inl a :: rest => if a < 2147483648 then (if b < 2147483648 then (if 0 < b then some (pc + 1, als, (.inl (a / b) : AV) :: rest) else none) else none) else none
      | _ => none) = some r := h
    split at h
    · split at h
      · split at h
        · split at h
          · rename_i b a rest h1 h2 h3
            have h := sj h
            subst h
            obtain ⟨v, st1, rfl, hb1, hS1⟩ := F2_cons hS
            obtain ⟨w, st2, rfl, ha1, hS2⟩ := F2_cons hS1
            rw [show v = _ from hb1, show w = _ from ha1]
            exact lv_idiv hx hb hd (nI_ne0 h3 h2) (k ls _ hL (F2_mk (by show _ = _; rw [pk_div h1 h3 h2]) hS2))
          · cases h
        · cases h
      · cases h
    · cases h
  case irem =>
    have h : (match (generalizing := false) ast with
      | .inl b :: .inl a :: rest => if a < 2147483648 then (if b < 2147483648 then (if 0 < b then some (pc + 1, als, (.inl (a % b) : AV) :: rest) else none) else none) else none
      | _ => none) = some r := h
    split at h
    · split at h
      · split at h
        · split at h
          · rename_i b a rest h1 h2 h3
            have h := sj h
            subst h
            obtain ⟨v, st1, rfl, hb1, hS1⟩ := F2_cons hS
            obtain ⟨w, st2, rfl, ha1, hS2⟩ := F2_cons hS1
            rw [show v = _ from hb1, show w = _ from ha1]
            exact lv_irem hx hb hd (nI_ne0 h3 h2) (k ls _ hL (F2_mk (by show _ = _; rw [pk_rem h1 h3 h2]) hS2))
          · cases h
        · cases h
      · cases h
    · cases h
  case i2l =>
    have h : (match (generalizing := false) ast with
      | .inl a :: rest => if a < 2147483648 then some (pc + 1, als, (.inr (.inr (.inr (.inl (some a)))) : AV) :: rest) else if a < 4294967296 then some (pc + 1, als, (.inr (.inr (.inr (.inl (some (a + 18446744069414584320))))) : AV) :: rest) else none
      | _ => none) = some r := h
    split at h
    · split at h
      · rename_i a rest h1
        have h := sj h
        subst h
        obtain ⟨v, st1, rfl, hb1, hS1⟩ := F2_cons hS
        rw [show v = _ from hb1]
        exact lv_i2l hx hb hd (i2l_ok h1) (k ls _ hL (F2_mk rfl hS1))
      · split at h
        · rename_i a rest h1 h2
          have h := sj h
          subst h
          obtain ⟨v, st1, rfl, hb1, hS1⟩ := F2_cons hS
          rw [show v = _ from hb1]
          exact lv_i2l hx hb hd (i2l_neg h1 h2) (k ls _ hL (F2_mk rfl hS1))
        · cases h
    · cases h
  case lcmp =>
    have h : (match (generalizing := false) ast with
      | .inr (.inr (.inr (.inl (some b)))) :: .inr (.inr (.inr (.inl (some a)))) :: rest => if a = b then some (pc + 1, als, (.inl 0 : AV) :: rest) else none
      | _ => none) = some r := h
    split at h
    · split at h
      · rename_i b a rest h1
        have h := sj h
        subst h1
        subst h
        obtain ⟨v, st1, rfl, hb1, hS1⟩ := F2_cons hS
        obtain ⟨w, st2, rfl, ha1, hS2⟩ := F2_cons hS1
        rw [show v = _ from hb1, show w = _ from ha1]
        exact W.lcmp hx hb hd (k ls _ hL (F2_mk (by show _ = _; rw [lcmp_self]; rfl) hS2))
      · cases h
    · cases h
  case dup =>
    have h : (match (generalizing := false) ast with
      | a :: rest => match Nat.beq (acat a) 1 with
        | true => some (pc + 1, als, a :: a :: rest)
        | false => none
      | _ => none) = some r := h
    split at h
    · split at h
      · rename_i a rest _ h1
        have h := sj h
        subst h
        obtain ⟨v, st1, rfl, hb1, hS1⟩ := F2_cons hS
        exact lv_dup hx hb hd ((vcat hb1).trans (beq1 h1)) (k ls _ hL (F2_mk hb1 (F2_mk hb1 hS1)))
      · cases h
    · cases h
  case dup_x1 =>
    have h : (match (generalizing := false) ast with
      | a :: b :: rest => match Nat.beq (acat a) 1 && Nat.beq (acat b) 1 with
        | true => some (pc + 1, als, a :: b :: a :: rest)
        | false => none
      | _ => none) = some r := h
    split at h
    · split at h
      · rename_i a b rest _ h1
        have h := sj h
        subst h
        obtain ⟨v, st1, rfl, hb1, hS1⟩ := F2_cons hS
        obtain ⟨w, st2, rfl, hb2, hS2⟩ := F2_cons hS1
        have h1 := and_cases h1
        exact lv_dup_x1 hx hb hd ((vcat hb1).trans (beq1 h1.1)) ((vcat hb2).trans (beq1 h1.2)) (k ls _ hL (F2_mk hb1 (F2_mk hb2 (F2_mk hb1 hS2))))
      · cases h
    · cases h
  case dup2 =>
    have h : (match (generalizing := false) ast with
      | a :: b :: rest => match Nat.beq (acat a) 1 && Nat.beq (acat b) 1 with
        | true => some (pc + 1, als, a :: b :: a :: b :: rest)
        | false => none
      | _ => none) = some r := h
    split at h
    · split at h
      · rename_i a b rest _ h1
        have h := sj h
        subst h
        obtain ⟨v, st1, rfl, hb1, hS1⟩ := F2_cons hS
        obtain ⟨w, st2, rfl, hb2, hS2⟩ := F2_cons hS1
        have h1 := and_cases h1
        exact lv_dup2_11 hx hb hd ((vcat hb1).trans (beq1 h1.1)) ((vcat hb2).trans (beq1 h1.2)) (k ls _ hL (F2_mk hb1 (F2_mk hb2 (F2_mk hb1 (F2_mk hb2 hS2)))))
      · cases h
    · cases h
  case pop =>
    have h : (match (generalizing := false) ast with
      | a :: rest => match Nat.beq (acat a) 1 with
        | true => some (pc + 1, als, rest)
        | false => none
      | _ => none) = some r := h
    split at h
    · split at h
      · rename_i a rest _ h1
        have h := sj h
        subst h
        obtain ⟨v, st1, rfl, hb1, hS1⟩ := F2_cons hS
        exact lv_pop hx hb hd ((vcat hb1).trans (beq1 h1)) (k ls _ hL hS1)
      · cases h
    · cases h
  case goto o =>
    obtain ⟨t, ht, h1⟩ := jmp_ok (show jmp (some true) pc 3 o als ast = some r from h)
    rcases h1 with ⟨-, h1⟩ | ⟨h1, -⟩
    · subst h1
      exact lv_goto hx hb hd ht (k ls _ hL hS)
    · cases h1
  case ifCond cd o =>
    have h : (match (generalizing := false) ast with
      | a :: rest => jmp (cmp2 bnd cd a (.inl 0)) pc 3 o als rest
      | _ => none) = some r := h
    split at h
    · obtain ⟨v, st1, rfl, hb1, hS1⟩ := F2_cons hS
      obtain ⟨t, ht, ⟨h1, h⟩ | ⟨h1, h⟩⟩ := jmp_ok h
      · subst h
        obtain ⟨x, y, rfl, e2, hq⟩ := cmp2_ok (w := .int 0) hB h1 hb1 rfl
        cases e2
        exact if_row hx hb hd hq ht (fun _ => k ls _ hL hS1) (fun h => nomatch h)
      · subst h
        obtain ⟨x, y, rfl, e2, hq⟩ := cmp2_ok (w := .int 0) hB h1 hb1 rfl
        cases e2
        exact if_row hx hb hd hq ht (fun h => nomatch h) (fun _ => k ls _ hL hS1)
    · cases h
  case if_icmp cd o =>
    have h : (match (generalizing := false) ast with
      | b :: a :: rest => jmp (cmp2 bnd cd a b) pc 3 o als rest
      | _ => none) = some r := h
    split at h
    · obtain ⟨v, st1, rfl, hb1, hS1⟩ := F2_cons hS
      obtain ⟨w, st2, rfl, hb2, hS2⟩ := F2_cons hS1
      obtain ⟨t, ht, ⟨h1, h⟩ | ⟨h1, h⟩⟩ := jmp_ok h
      · subst h
        obtain ⟨x, y, rfl, rfl, hq⟩ := cmp2_ok hB h1 hb2 hb1
        exact icmp_row hx hb hd hq ht (fun _ => k ls _ hL hS2) (fun h => nomatch h)
      · subst h
        obtain ⟨x, y, rfl, rfl, hq⟩ := cmp2_ok hB h1 hb2 hb1
        exact icmp_row hx hb hd hq ht (fun h => nomatch h) (fun _ => k ls _ hL hS2)
    · cases h
  case ifnull o =>
    have h : (match (generalizing := false) ast with
      | a :: rest => jmp (match isN a with | true => some true | false => match isR a with | true => some false | false => none) pc 3 o als rest
      | _ => none) = some r := h
    split at h
    · rename_i a rest _
      obtain ⟨v, st1, rfl, hb1, hS1⟩ := F2_cons hS
      obtain ⟨t, ht, h⟩ := jmp_ok h
      cases u : isN a with
      | true =>
        simp only [u] at h
        have := vnul u hb1
        subst this
        rcases h with ⟨h1, h⟩ | ⟨h1, h⟩
        · subst h
          exact lv_ifnullN hx hb hd ht (k ls _ hL hS1)
        · cases h1
      | false =>
        simp only [u] at h
        cases u2 : isR a with
        | false =>
          simp only [u2] at h
          rcases h with ⟨h1, h⟩ | ⟨h1, h⟩ <;> cases h1
        | true =>
          simp only [u2] at h
          obtain ⟨x, rfl⟩ := vref u2 hb1
          rcases h with ⟨h1, h⟩ | ⟨h1, h⟩
          · cases h1
          · subst h
            exact lv_ifnull hx hb hd (k ls _ hL hS1)
    · cases h
  case ifnonnull o =>
    have h : (match (generalizing := false) ast with
      | a :: rest => jmp (match isN a with | true => some false | false => match isR a with | true => some true | false => none) pc 3 o als rest
      | _ => none) = some r := h
    split at h
    · rename_i a rest _
      obtain ⟨v, st1, rfl, hb1, hS1⟩ := F2_cons hS
      obtain ⟨t, ht, h⟩ := jmp_ok h
      cases u : isN a with
      | true =>
        simp only [u] at h
        have := vnul u hb1
        subst this
        rcases h with ⟨h1, h⟩ | ⟨h1, h⟩
        · cases h1
        · subst h
          exact lv_ifnonnullN hx hb hd (k ls _ hL hS1)
      | false =>
        simp only [u] at h
        cases u2 : isR a with
        | false =>
          simp only [u2] at h
          rcases h with ⟨h1, h⟩ | ⟨h1, h⟩ <;> cases h1
        | true =>
          simp only [u2] at h
          obtain ⟨x, rfl⟩ := vref u2 hb1
          rcases h with ⟨h1, h⟩ | ⟨h1, h⟩
          · subst h
            exact lv_ifnonnull hx hb hd ht (k ls _ hL hS1)
          · cases h1
    · cases h
  case if_acmp cd o =>
    have same : ∀ (b a : AV) (w v : Value), rsame a b = some true → vrel g ρ b w → vrel g ρ a v → ∃ x : Nat, w = .ref x ∧ v = .ref x := by
      intro b a w v h hb1 ha1
      match a, b, h, hb1, ha1 with
      | .inr (.inr (.inl i)), .inr (.inr (.inl j)), h, hb1, ha1 =>
        have h : (match Nat.beq i j with | true => some true | false => (none : Option Bool)) = some true := h
        cases u : Nat.beq i j with
        | false => rw [u] at h; cases h
        | true =>
          have u := Nat.eq_of_beq_eq_true u
          subst u
          obtain ⟨x, e1, rfl⟩ := hb1
          obtain ⟨y, e2, rfl⟩ := ha1
          cases e1.symm.trans e2
          exact ⟨x, rfl, rfl⟩
      | .inr (.inr (.inr (.inr 3))), .inr (.inr (.inr (.inr 3))), h, hb1, ha1 => exact ⟨_, hb1, ha1⟩
    have sfal : ∀ (b a : AV), rsame a b ≠ some false := by
      intro b a h
      unfold rsame at h
      split at h
      · split at h <;> cases h
      · cases h
      · cases h
    cases cd with
    | eq =>
      have h : (match (generalizing := false) ast with
        | b :: a :: rest => jmp (rsame a b) pc 3 o als rest
        | _ => none) = some r := h
      split at h
      · rename_i b a rest _
        obtain ⟨v, st1, rfl, hb1, hS1⟩ := F2_cons hS
        obtain ⟨w, st2, rfl, hb2, hS2⟩ := F2_cons hS1
        obtain ⟨t, ht, ⟨h1, h⟩ | ⟨h1, h⟩⟩ := jmp_ok h
        · subst h
          obtain ⟨x, rfl, rfl⟩ := same _ _ _ _ h1 hb1 hb2
          exact lv_acmp_eq (rx := some x) (ry := some x) hx hb hd ht (fun _ => k ls _ hL hS2) (fun h => absurd rfl h)
        · exact absurd h1 (sfal _ _)
      · cases h
    | ne =>
      have h : (match (generalizing := false) ast with
        | b :: a :: rest => jmp ((rsame a b).map (fun x => !x)) pc 3 o als rest
        | _ => none) = some r := h
      split at h
      · rename_i b a rest _
        obtain ⟨v, st1, rfl, hb1, hS1⟩ := F2_cons hS
        obtain ⟨w, st2, rfl, hb2, hS2⟩ := F2_cons hS1
        obtain ⟨t, ht, ⟨h1, h⟩ | ⟨h1, h⟩⟩ := jmp_ok h
        · exact absurd (map_not h1) (sfal _ _)
        · subst h
          obtain ⟨x, rfl, rfl⟩ := same _ _ _ _ (map_not h1) hb1 hb2
          exact lv_acmp_ne (rx := some x) (ry := some x) hx hb hd ht (fun h => absurd rfl h) (fun _ => k ls _ hL hS2)
      · cases h
  all_goals exact absurd h (by intro h; cases (show (none : P1) = some r from h))
end OK2
