/-! the law, row by row: checks -/
def bndL : List (Nat × Nat) := [(2147483651, 2147483651), (2147483648, 2147483648), (2147483648, 2147483648), (2147483647, 2147483647), (2147483648, 2147483648), (2147483648, 2147483648), (2147483651, 2147483651), (2147483649, 2147483649), (2147483648, 2147483648), (2147483647, 2147483647), (2147483648, 2147483648), (2147483648, 2147483648), (2147483654, 2147483654), (2147483648, 2147483648), (2147483648, 2147483648), (2147483648, 2147483648), (2147483648, 2147483648), (2147483648, 2147483648), (2147483654, 2147483654), (2147483648, 2147483648), (2147483648, 2147483648), (2147483648, 2147483648), (2147483648, 2147483648), (2147483648, 2147483648), (2147483654, 2147483654), (2147483649, 2147483649), (2147483648, 2147483648), (2147483648, 2147483648), (2147483648, 2147483648), (2147483648, 2147483648), (2147483654, 2147483654), (2147483649, 2147483649), (2147483648, 2147483648), (2147483648, 2147483648), (2147483648, 2147483648), (2147483648, 2147483648), (2147483654, 2147483654), (2147483649, 2147483649), (2147483648, 2147483648), (2147483648, 2147483648), (2147483648, 2147483648), (2147483648, 2147483648), (2147483654, 2147483654), (2147483649, 2147483649), (2147483648, 2147483648), (2147483648, 2147483648), (2147483648, 2147483648), (2147483648, 2147483648), (2147483654, 2147483654), (2147483649, 2147483649), (2147483648, 2147483648), (2147483648, 2147483648), (2147483648, 2147483648), (2147483648, 2147483648), (2147483654, 2147483654), (2147483649, 2147483649), (2147483648, 2147483648), (2147483648, 2147483648), (2147483648, 2147483648), (2147483648, 2147483648), (2147483654, 2147483654), (2147483649, 2147483649), (2147483648, 2147483648), (2147483648, 2147483648), (2147483648, 2147483648), (2147483648, 2147483648), (2147483654, 2147483654), (2147483649, 2147483649), (2147483648, 2147483648), (2147483648, 2147483648), (2147483648, 2147483648), (2147483648, 2147483648), (2147483654, 2147483654), (2147483649, 2147483649), (2147483648, 2147483648), (2147483648, 2147483648), (2147483648, 2147483648), (2147483648, 2147483648), (2147483654, 2147483654), (2147483649, 2147483649), (2147483648, 2147483648), (2147483648, 2147483648), (2147483648, 2147483648), (2147483648, 2147483648), (2147483654, 2147483654), (2147483649, 2147483649), (2147483648, 2147483648), (2147483648, 2147483648), (2147483648, 2147483648), (2147483648, 2147483648), (2147483654, 2147483654), (2147483649, 2147483649), (2147483648, 2147483648), (2147483648, 2147483648), (2147483648, 2147483648), (2147483648, 2147483648), (2147483654, 2147483654), (2147483649, 2147483649), (2147483648, 2147483648), (2147483648, 2147483648), (2147483648, 2147483648), (2147483648, 2147483648), (2147483654, 2147483654), (2147483649, 2147483649), (2147483648, 2147483648), (2147483648, 2147483648), (2147483648, 2147483648), (2147483648, 2147483648), (2147483654, 2147483654), (2147483649, 2147483649), (2147483648, 2147483648), (2147483648, 2147483648), (2147483648, 2147483648), (2147483648, 2147483648), (2147483654, 2147483654), (2147483649, 2147483649), (2147483648, 2147483648), (2147483648, 2147483648), (2147483648, 2147483648), (2147483648, 2147483648), (2147483654, 2147483654), (2147483649, 2147483649), (2147483648, 2147483648), (2147483648, 2147483648), (2147483648, 2147483648), (2147483648, 2147483648), (2147483654, 2147483654), (2147483649, 2147483649), (2147483648, 2147483648), (2147483648, 2147483648), (2147483648, 2147483648), (2147483648, 2147483648), (2147483654, 2147483654), (2147483649, 2147483649), (2147483648, 2147483648), (2147483648, 2147483648), (2147483648, 2147483648), (2147483648, 2147483648), (2147483663, 2147483663), (2147483648, 2147483648), (2147483648, 2147483648), (2147483648, 2147483648), (2147483648, 2147483648), (2147483648, 2147483648), (2147483654, 2147483654), (2147483648, 2147483648), (2147483648, 2147483648), (2147483648, 2147483648), (2147483648, 2147483648), (2147483648, 2147483648), (2147483665, 2147483665), (2147483648, 2147483648), (2147483648, 2147483648), (2147483648, 2147483648), (2147483648, 2147483648), (2147483648, 2147483648)]
def scrF : List Int := [3, 0, 0, -1, 0, 0, 3, 1, 0, -1, 0, 0, 6, 0, 0, 0, 0, 0, 6, 0, 0, 0, 0, 0, 6, 1, 0, 0, 0, 0, 6, 1, 0, 0, 0, 0, 6, 1, 0, 0, 0, 0, 6, 1, 0, 0, 0, 0, 6, 1, 0, 0, 0, 0, 6, 1, 0, 0, 0, 0, 6, 1, 0, 0, 0, 0, 6, 1, 0, 0, 0, 0, 6, 1, 0, 0, 0, 0, 6, 1, 0, 0, 0, 0, 6, 1, 0, 0, 0, 0, 6, 1, 0, 0, 0, 0, 6, 1, 0, 0, 0, 0, 6, 1, 0, 0, 0, 0, 6, 1, 0, 0, 0, 0, 6, 1, 0, 0, 0, 0, 6, 1, 0, 0, 0, 0, 6, 1, 0, 0, 0, 0, 6, 1, 0, 0, 0, 0, 15, 0, 0, 0, 0, 0, 6, 0, 0, 0, 0, 0, 17, 0, 0, 0, 0, 0]
def evL : EV := (bndL, 64, 156)
def alsL (i : Nat) : Als := [(0, .inr (.inr (.inr (.inr 2)))), (1, rf 0), (2, rf 61), (3, rf 113), (4, .inl i)]
def ckL (o : Option Fin9) (pcs u v : Nat) (AH : List AC) (nt : Nat) : Bool := match o with
  | some (9, pc, .inl 0, ah', nt', u', v') => Nat.beq pc pcs && (Nat.ble u' u && (Nat.ble v' v && (Nat.beq nt' nt && nS ah' AH)))
  | _ => false
theorem ckL_in {o : Option Fin9} {pcs u v nt : Nat} {AH : List AC} (h : ckL o pcs u v AH nt = true) : ∃ ah' u' v', o = some (9, pcs, .inl 0, ah', nt, u', v') ∧ u' ≤ u ∧ v' ≤ v ∧ nS ah' AH = true := by
  unfold ckL at h
  split at h
  · have h1 := and_cases h
    have h2 := and_cases h1.2
    have h3 := and_cases h2.2
    have h4 := and_cases h3.2
    have e := Nat.eq_of_beq_eq_true h1.1
    have e2 := Nat.eq_of_beq_eq_true h4.1
    subst e
    subst e2
    exact ⟨_, _, _, rfl, Nat.le_of_ble_eq_true h2.1, Nat.le_of_ble_eq_true h3.1, h4.2⟩
  · cases h
/-- tables with one step ahead of a method's own -/
def tfsB (T : List (List (Nat × Step))) (k pc : Nat) (F : Step) : List (List (Nat × Step)) := match T[k]? with
  | some t => T.set k ((pc, F) :: t)
  | none => T
theorem sok_tfsB {T : List (List (Nat × Step))} {STP : Als × List AV} {l : Launch} {g : GV} {D : va_G} {sl : Nat} {ev : EV} (hT : ∀ (mi : Nat) (t : List (Nat × Step)) (mt : MT), T[mi]? = some t → TB[mi]? = some mt → ∀ q ∈ t, SOK TB WB AD SR FW STP l g D sl ev mt mi q.1 q.2) {k pc : Nat} {F : Step} (hF : ∀ mt, TB[k]? = some mt → SOK TB WB AD SR FW STP l g D sl ev mt k pc F) : ∀ (mi : Nat) (t : List (Nat × Step)) (mt : MT), (tfsB T k pc F)[mi]? = some t → TB[mi]? = some mt → ∀ q ∈ t, SOK TB WB AD SR FW STP l g D sl ev mt mi q.1 q.2 := by
  intro mi t mt ht hmt
  unfold tfsB at ht
  split at ht
  · rename_i t0 h0
    rw [List.getElem?_set] at ht
    split at ht
    · rename_i e
      subst e
      split at ht
      · have ht := Option.some.inj ht
        subst ht
        intro q hq
        rcases List.mem_cons.mp hq with rfl | hq
        · exact hF mt hmt
        · exact hT _ t0 mt h0 hmt q hq
      · cases ht
    · exact hT mi t mt ht hmt
  · exact hT mi t mt ht hmt
def tfL (i : Nat) : List (List (Nat × Step)) := tfsB TF 0 23 (aStp (alsL i, []) (stpAt 0 23))
def tfM : List (List (Nat × Step)) := tfsB (tfsB TF 106 3 aRed) 0 770 (aStp ([], [rf 61]) (stpAt 0 770))
def runL (i i' : Nat) (AH : List AC) (nt : Nat) : Option Fin9 := run (tfL i') evL 60000 200 0 23 (alsL i) [] AH nt
def AL0 : List AC := [.inl (11, [.inr (.inr (.inl 1)), .inr (.inr (.inl 11)), .inr (.inr (.inl 17)), .inr (.inr (.inl 19)), .inr (.inr (.inl 40)), .inr (.inr (.inl 47)), .inr (.inr (.inl 51)), .inr (.inr (.inl 55)), .inl 0, .inl 0]),
  .inl (8, [.inl 0, .inl 0, .inr (.inr (.inl 2)), .inr (.inr (.inl 3)), .inr (.inr (.inl 4)), .inr (.inr (.inl 5)), .inr (.inr (.inl 6)), .inr (.inr (.inl 7)), .inr (.inr (.inl 8)), .inr (.inr (.inl 9)), .inr (.inr (.inl 10))]),
  .inr (0, 0, 9, [(1, .inl 1), (2, .inl 2), (3, .inl 4), (4, .inl 8), (5, .inl 16), (6, .inl 32), (7, .inl 64), (8, .inl 128)], .inl 0),
  .inr (0, 1, 10, [], .inl 0),
  .inr (0, 2, 16, [], .inl 0),
  .inr (0, 3, 16, [], .inl 0),
  .inr (0, 4, 16, [], .inl 0),
  .inr (0, 5, 16, [], .inl 0),
  .inr (0, 6, 192, [], .inl 0),
  .inr (0, 7, 64, [(0, .inl 1), (1, .inl 1), (2, .inl 1), (3, .inl 1), (4, .inl 1), (5, .inl 1), (6, .inl 1), (7, .inl 1), (8, .inl 1), (9, .inl 1), (10, .inl 1), (11, .inl 1), (12, .inl 1), (13, .inl 1), (14, .inl 1), (15, .inl 1), (16, .inl 1), (17, .inl 1), (18, .inl 1), (19, .inl 1), (20, .inl 1), (21, .inl 1), (22, .inl 1), (23, .inl 1), (24, .inl 1), (25, .inl 1), (26, .inl 1), (27, .inl 1), (28, .inl 1), (29, .inl 1), (30, .inl 1), (31, .inl 1), (32, .inl 1), (33, .inl 1), (34, .inl 1), (35, .inl 1), (36, .inl 1), (37, .inl 1), (38, .inl 1), (39, .inl 1), (40, .inl 1), (41, .inl 1), (42, .inl 1), (43, .inl 1), (44, .inl 1), (45, .inl 1), (46, .inl 1), (47, .inl 1), (48, .inl 1), (49, .inl 1), (50, .inl 1), (51, .inl 1), (52, .inl 1), (53, .inl 1), (54, .inl 1), (55, .inl 1), (56, .inl 1), (57, .inl 1), (58, .inl 1), (59, .inl 1), (60, .inl 1), (61, .inl 1), (62, .inl 1), (63, .inl 1)], .inl 0),
  .inr (0, 8, 16, [], .inl 0),
  .inl (9, [.inr (.inr (.inl 1)), .inr (.inr (.inl 12)), .inl 7500, .inr (.inr (.inl 13)), .inl 0, .inr (.inr (.inl 14)), .inr (.inr (.inl 15)), .inr (.inr (.inl 16)), .inl 4294967295, .inl 4294967295, .inl 0]),
  .inr (0, 9, 27500, [(0, .inl 0), (1, .inl 1), (2, .inl 2), (3, .inl 3), (4, .inl 4), (5, .inl 5), (6, .inl 6), (7, .inl 7), (8, .inl 8), (9, .inl 9), (10, .inl 10), (11, .inl 11), (12, .inl 12), (13, .inl 13), (14, .inl 14), (15, .inl 15), (16, .inl 16), (17, .inl 17), (18, .inl 18), (19, .inl 19)], .inl 0),
  .inr (0, 10, 1280, [], .inl 0),
  .inr (0, 11, 5, [], .inl 0),
  .inr (0, 12, 5, [], .inl 0),
  .inr (0, 13, 20, [], .inl 0),
  .inl (3, [.inr (.inr (.inl 11)), .inr (.inr (.inl 1)), .inl 0, .inl 0, .inr (.inr (.inl 18))]),
  .inr (1, 14, 20, [], .inl 0),
  .inl (4, [.inr (.inr (.inl 11)), .inr (.inr (.inl 1)), .inr (.inr (.inl 28)), .inr (.inr (.inl 20)), .inr (.inr (.inl 21)), .inl 0, .inr (.inr (.inl 22)), .inr (.inr (.inl 23)), .inr (.inr (.inl 24)), .inr (.inr (.inl 25)), .inr (.inr (.inl 26)), .inr (.inr (.inl 27)), .inl 0, .inl 0, .inl 0, .inl 0]),
  .inr (0, 15, 256, [], .inl 0),
  .inr (0, 16, 20, [], .inl 0),
  .inr (0, 17, 64, [], .inl 0),
  .inr (0, 18, 64, [], .inl 0),
  .inr (0, 19, 64, [], .inl 0),
  .inr (0, 20, 64, [], .inl 0),
  .inr (0, 21, 64, [], .inl 0),
  .inr (0, 22, 64, [], .inl 0),
  .inl (5, [.inr (.inr (.inl 11)), .inr (.inr (.inl 1)), .inl 0, .inr (.inr (.inl 29)), .inr (.inr (.inl 30)), .inr (.inr (.inl 31)), .inr (.inr (.inl 32)), .inr (.inr (.inl 33)), .inr (.inr (.inl 34)), .inl 0, .inr (.inr (.inl 35)), .inr (.inr (.inl 36)), .inr (.inr (.inl 37)), .inr (.inr (.inl 38)), .inr (.inr (.inl 39)), .inl 0]),
  .inr (0, 23, 256, [], .inl 0),
  .inr (0, 24, 256, [], .inl 0),
  .inr (0, 25, 256, [], .inl 0),
  .inr (0, 26, 256, [], .inl 0),
  .inr (0, 27, 256, [], .inl 0),
  .inr (0, 28, 256, [], .inl 0),
  .inr (0, 29, 256, [], .inl 0),
  .inr (0, 30, 256, [], .inl 0),
  .inr (0, 31, 100, [], .inl 0),
  .inr (0, 32, 640, [], .inl 0),
  .inr (0, 33, 16, [], .inl 0),
  .inl (7, [.inr (.inr (.inl 11)), .inr (.inr (.inl 17)), .inr (.inr (.inl 19)), .inl 0, .inl 0, .inr (.inr (.inl 41)), .inr (.inr (.inl 42)), .inr (.inr (.inl 43)), .inr (.inr (.inl 44)), .inr (.inr (.inl 45))]),
  .inr (0, 34, 1240, [], .inl 0),
  .inr (0, 35, 1240, [], .inl 0),
  .inr (0, 36, 1240, [], .inl 0),
  .inr (0, 37, 1240, [], .inl 0),
  .inr (0, 38, 1240, [], .inl 0),
  .inl (10, [.inr (.inr (.inl 11)), .inr (.inr (.inl 40)), .inr (.inr (.inl 17)), .inr (.inr (.inl 19)), .inl 0, .inl 0, .inl 0, .inl 0, .inl 0, .inl 0, .inl 0, .inl 0, .inl 0, .inl 0, .inl 0]),
  .inl (2, [.inr (.inr (.inl 11)), .inr (.inr (.inl 46)), .inl 0, .inl 0, .inr (.inr (.inl 48)), .inr (.inr (.inl 49)), .inr (.inr (.inl 50)), .inl 0, .inl 0]),
  .inr (0, 39, 24, [], .inl 0),
  .inr (0, 40, 24, [], .inl 0),
  .inr (0, 41, 24, [], .inl 0),
  .inl (6, [.inr (.inr (.inl 11)), .inr (.inr (.inl 46)), .inl 0, .inl 0, .inr (.inr (.inl 52)), .inr (.inr (.inl 53)), .inr (.inr (.inl 54)), .inl 0, .inl 0]),
  .inr (0, 42, 240, [], .inl 0),
  .inr (0, 43, 240, [], .inl 0),
  .inr (0, 44, 240, [], .inl 0),
  .inl (1, [.inr (.inr (.inl 11)), .inr (.inr (.inl 1)), .inr (.inr (.inl 17)), .inr (.inr (.inl 40)), .inl 0, .inr (.inr (.inl 56)), .inr (.inr (.inl 57)), .inr (.inr (.inl 58)), .inl 0, .inr (.inr (.inl 59)), .inl 0, .inl 0, .inl 0, .inr (.inr (.inl 60))]),
  .inr (0, 45, 60, [], .inl 0),
  .inr (0, 46, 60, [], .inl 0),
  .inr (0, 47, 60, [], .inl 0),
  .inr (0, 48, 20, [], .inl 0),
  .inr (2, 49, 21, [], .inr (.inr (.inr (.inl (some 0))))),
  .inl (18, [.inl 0, .inl 0, .inr (.inr (.inl 62)), .inr (.inr (.inl 63)), .inl 0, .inr (.inr (.inl 64)), .inr (.inr (.inl 65)), .inr (.inr (.inl 66)), .inr (.inr (.inl 67)), .inr (.inr (.inl 68)), .inr (.inr (.inl 69)), .inr (.inr (.inl 70)), .inr (.inr (.inl 71)), .inr (.inr (.inl 72)), .inr (.inr (.inl 73)), .inr (.inr (.inl 74)), .inr (.inr (.inl 75)), .inr (.inr (.inl 76)), .inl 0, .inl 0, .inr (.inr (.inl 77)), .inr (.inr (.inl 78)), .inr (.inr (.inl 79)), .inl 0, .inl 0, .inl 0, .inl 0, .inl 0, .inr (.inr (.inl 80)), .inr (.inr (.inl 81)), .inr (.inr (.inl 82)), .inr (.inr (.inl 83)), .inr (.inr (.inl 84)), .inr (.inr (.inl 85)), .inr (.inr (.inl 86)), .inr (.inr (.inl 87)), .inr (.inr (.inl 88)), .inr (.inr (.inl 89)), .inl 0, .inl 0, .inl 0, .inr (.inr (.inl 90)), .inr (.inr (.inl 91)), .inl 0, .inr (.inr (.inl 92))]),
  .inr (1, 50, 64, [], .inl 0),
  .inr (0, 51, 10, [], .inl 0),
  .inr (0, 52, 16, [], .inl 0),
  .inr (0, 53, 16, [], .inl 0),
  .inr (0, 54, 16, [(0, .inl 4294967295), (1, .inl 4294967295), (2, .inl 4294967295), (3, .inl 4294967295), (4, .inl 4294967295), (5, .inl 4294967295), (6, .inl 4294967295), (7, .inl 4294967295), (8, .inl 4294967295), (9, .inl 4294967295), (10, .inl 4294967295), (11, .inl 4294967295), (12, .inl 4294967295), (13, .inl 4294967295), (14, .inl 4294967295), (15, .inl 4294967295)], .inl 0),
  .inr (0, 55, 16, [], .inl 0),
  .inr (0, 56, 48, [], .inl 0),
  .inr (0, 57, 144, [], .inl 0),
  .inr (0, 58, 64, [], .inl 0),
  .inr (0, 59, 16, [], .inl 0),
  .inl (0, [.inl 0, .inr (.inr (.inr (.inr 3))), .inl 0]),
  .inr (3, 60, 20, [], .inr (.inr (.inr (.inl none)))),
  .inl (0, [.inl 0, .inr (.inr (.inr (.inr 3))), .inl 0]),
  .inl (0, [.inl 0, .inr (.inr (.inr (.inr 3))), .inl 0]),
  .inl (0, [.inl 0, .inr (.inr (.inr (.inr 3))), .inl 0]),
  .inl (0, [.inl 0, .inr (.inr (.inr (.inr 3))), .inl 0]),
  .inr (0, 61, 24, [], .inl 0),
  .inr (1, 62, 576, [], .inl 0),
  .inr (3, 63, 0, [], .inr (.inr (.inr (.inl none)))),
  .inr (3, 64, 20, [(0, .inr (.inr (.inl 93))), (1, .inr (.inr (.inl 94))), (2, .inr (.inr (.inl 95))), (3, .inr (.inr (.inl 96))), (4, .inr (.inr (.inl 97))), (5, .inr (.inr (.inl 98))), (6, .inr (.inr (.inl 99))), (7, .inr (.inr (.inl 100))), (8, .inr (.inr (.inl 101))), (9, .inr (.inr (.inl 102))), (10, .inr (.inr (.inl 103))), (11, .inr (.inr (.inl 104))), (12, .inr (.inr (.inl 105))), (13, .inr (.inr (.inl 106))), (14, .inr (.inr (.inl 107))), (15, .inr (.inr (.inl 108))), (16, .inr (.inr (.inl 109))), (17, .inr (.inr (.inl 110))), (18, .inr (.inr (.inl 111))), (19, .inr (.inr (.inl 112)))], .inr (.inr (.inr (.inl none)))),
  .inr (3, 65, 20, [(0, .inr (.inr (.inl 103))), (1, .inr (.inr (.inl 104))), (2, .inr (.inr (.inl 105))), (3, .inr (.inr (.inl 106))), (4, .inr (.inr (.inl 107))), (5, .inr (.inr (.inl 108))), (6, .inr (.inr (.inl 109))), (7, .inr (.inr (.inl 110))), (8, .inr (.inr (.inl 111))), (9, .inr (.inr (.inl 112)))], .inr (.inr (.inr (.inl none)))),
  .inr (3, 66, 16, [], .inr (.inr (.inr (.inl none)))),
  .inr (3, 67, 32, [], .inr (.inr (.inr (.inl none)))),
  .inr (3, 68, 32, [], .inr (.inr (.inr (.inl none)))),
  .inr (0, 69, 32, [], .inl 0),
  .inr (0, 70, 32, [], .inl 0),
  .inr (3, 71, 10, [], .inr (.inr (.inr (.inl none)))),
  .inr (0, 72, 10, [], .inl 0),
  .inr (3, 73, 96, [], .inr (.inr (.inr (.inl none)))),
  .inl (0, [.inl 0, .inr (.inr (.inr (.inr 3))), .inl 0]),
  .inr (3, 74, 20, [], .inr (.inr (.inr (.inl none)))),
  .inl (17, [.inl 0, .inl 4294967295, .inr (.inr (.inl 80)), .inl 1, .inl 4294967295, .inr (.inr (.inr (.inl none)))]),
  .inl (17, [.inl 1, .inl 4294967295, .inr (.inr (.inl 80)), .inl 1, .inl 4294967295, .inr (.inr (.inr (.inl none)))]),
  .inl (17, [.inl 2, .inl 4294967295, .inr (.inr (.inl 80)), .inl 1, .inl 4294967295, .inr (.inr (.inr (.inl none)))]),
  .inl (17, [.inl 3, .inl 4294967295, .inr (.inr (.inl 80)), .inl 1, .inl 4294967295, .inr (.inr (.inr (.inl none)))]),
  .inl (17, [.inl 4, .inl 4294967295, .inr (.inr (.inl 80)), .inl 1, .inl 4294967295, .inr (.inr (.inr (.inl none)))]),
  .inl (17, [.inl 5, .inl 4294967295, .inr (.inr (.inl 80)), .inl 1, .inl 4294967295, .inr (.inr (.inr (.inl none)))]),
  .inl (17, [.inl 6, .inl 4294967295, .inr (.inr (.inl 80)), .inl 1, .inl 4294967295, .inr (.inr (.inr (.inl none)))]),
  .inl (17, [.inl 7, .inl 4294967295, .inr (.inr (.inl 80)), .inl 1, .inl 4294967295, .inr (.inr (.inr (.inl none)))]),
  .inl (17, [.inl 8, .inl 4294967295, .inr (.inr (.inl 80)), .inl 1, .inl 4294967295, .inr (.inr (.inr (.inl none)))]),
  .inl (17, [.inl 9, .inl 4294967295, .inr (.inr (.inl 80)), .inl 1, .inl 4294967295, .inr (.inr (.inr (.inl none)))]),
  .inl (17, [.inl 10, .inl 4294967295, .inr (.inr (.inl 80)), .inl 1, .inl 4294967295, .inr (.inr (.inr (.inl none)))]),
  .inl (17, [.inl 11, .inl 4294967295, .inr (.inr (.inl 80)), .inl 1, .inl 4294967295, .inr (.inr (.inr (.inl none)))]),
  .inl (17, [.inl 12, .inl 4294967295, .inr (.inr (.inl 80)), .inl 1, .inl 4294967295, .inr (.inr (.inr (.inl none)))]),
  .inl (17, [.inl 13, .inl 4294967295, .inr (.inr (.inl 80)), .inl 1, .inl 4294967295, .inr (.inr (.inr (.inl none)))]),
  .inl (17, [.inl 14, .inl 4294967295, .inr (.inr (.inl 80)), .inl 1, .inl 4294967295, .inr (.inr (.inr (.inl none)))]),
  .inl (17, [.inl 15, .inl 4294967295, .inr (.inr (.inl 80)), .inl 1, .inl 4294967295, .inr (.inr (.inr (.inl none)))]),
  .inl (17, [.inl 16, .inl 4294967295, .inr (.inr (.inl 80)), .inl 1, .inl 4294967295, .inr (.inr (.inr (.inl none)))]),
  .inl (17, [.inl 17, .inl 4294967295, .inr (.inr (.inl 80)), .inl 1, .inl 4294967295, .inr (.inr (.inr (.inl none)))]),
  .inl (17, [.inl 18, .inl 4294967295, .inr (.inr (.inl 80)), .inl 1, .inl 4294967295, .inr (.inr (.inr (.inl none)))]),
  .inl (17, [.inl 19, .inl 4294967295, .inr (.inr (.inl 80)), .inl 1, .inl 4294967295, .inr (.inr (.inr (.inl none)))]),
  .inr (2, 75, 1, [], .inr (.inr (.inr (.inl (some 0)))))]
set_option maxRecDepth 100000 in
theorem ev_law : ckL (run (tfL 0) evL 60000 200 0 0 [(0, .inr (.inr (.inr (.inr 2))))] [] [] 0) 23 200 100000 AL0 76 = true := by decide +kernel
