/-! the law's run up to its loop, and each case from there, by numbers -/
def SCR : AV := .inr (.inr (.inr (.inr 2)))
def STP : Als := [(4, .inl 0), (3, .inr (.inr (.inl 113))), (2, .inr (.inr (.inl 61))), (1, .inr (.inr (.inl 0))), (0, .inr (.inr (.inr (.inr 2))))]
def AH0 : List AC := [.inl (11, [.inr (.inr (.inl 1)), .inr (.inr (.inl 11)), .inr (.inr (.inl 17)), .inr (.inr (.inl 19)), .inr (.inr (.inl 40)), .inr (.inr (.inl 47)), .inr (.inr (.inl 51)), .inr (.inr (.inl 55)), .inl 0, .inl 0]),
  .inl (8, [.inl 0, .inl 0, .inr (.inr (.inl 2)), .inr (.inr (.inl 3)), .inr (.inr (.inl 4)), .inr (.inr (.inl 5)), .inr (.inr (.inl 6)), .inr (.inr (.inl 7)), .inr (.inr (.inl 8)), .inr (.inr (.inl 9)), .inr (.inr (.inl 10))]),
  .inr (0, 0, 9, [(8, .inl 128), (7, .inl 64), (6, .inl 32), (5, .inl 16), (4, .inl 8), (3, .inl 4), (2, .inl 2), (1, .inl 1)], .inl 0),
  .inr (0, 1, 10, [], .inl 0),
  .inr (0, 2, 16, [], .inl 0),
  .inr (0, 3, 16, [], .inl 0),
  .inr (0, 4, 16, [], .inl 0),
  .inr (0, 5, 16, [], .inl 0),
  .inr (0, 6, 192, [], .inl 0),
  .inr (0, 7, 64, [(63, .inl 1), (62, .inl 1), (61, .inl 1), (60, .inl 1), (59, .inl 1), (58, .inl 1), (57, .inl 1), (56, .inl 1), (55, .inl 1), (54, .inl 1), (53, .inl 1), (52, .inl 1), (51, .inl 1), (50, .inl 1), (49, .inl 1), (48, .inl 1), (47, .inl 1), (46, .inl 1), (45, .inl 1), (44, .inl 1), (43, .inl 1), (42, .inl 1), (41, .inl 1), (40, .inl 1), (39, .inl 1), (38, .inl 1), (37, .inl 1), (36, .inl 1), (35, .inl 1), (34, .inl 1), (33, .inl 1), (32, .inl 1), (31, .inl 1), (30, .inl 1), (29, .inl 1), (28, .inl 1), (27, .inl 1), (26, .inl 1), (25, .inl 1), (24, .inl 1), (23, .inl 1), (22, .inl 1), (21, .inl 1), (20, .inl 1), (19, .inl 1), (18, .inl 1), (17, .inl 1), (16, .inl 1), (15, .inl 1), (14, .inl 1), (13, .inl 1), (12, .inl 1), (11, .inl 1), (10, .inl 1), (9, .inl 1), (8, .inl 1), (7, .inl 1), (6, .inl 1), (5, .inl 1), (4, .inl 1), (3, .inl 1), (2, .inl 1), (1, .inl 1), (0, .inl 1)], .inl 0),
  .inr (0, 8, 16, [], .inl 0),
  .inl (9, [.inr (.inr (.inl 1)), .inr (.inr (.inl 12)), .inl 7500, .inr (.inr (.inl 13)), .inl 0, .inr (.inr (.inl 14)), .inr (.inr (.inl 15)), .inr (.inr (.inl 16)), .inl 4294967295, .inl 4294967295, .inl 0]),
  .inr (0, 9, 27500, [(19, .inl 19), (18, .inl 18), (17, .inl 17), (16, .inl 16), (15, .inl 15), (14, .inl 14), (13, .inl 13), (12, .inl 12), (11, .inl 11), (10, .inl 10), (9, .inl 9), (8, .inl 8), (7, .inl 7), (6, .inl 6), (5, .inl 5), (4, .inl 4), (3, .inl 3), (2, .inl 2), (1, .inl 1), (0, .inl 0)], .inl 0),
  .inr (0, 10, 1280, [], .inl 0),
  .inr (0, 11, 5, [], .inl 0),
  .inr (0, 12, 5, [], .inl 0),
  .inr (0, 13, 20, [], .inl 0),
  .inl (3, [.inr (.inr (.inl 11)), .inr (.inr (.inl 1)), .inl 0, .inl 0, .inr (.inr (.inl 18))]),
  .inr (1, 14, 20, [], .inl 0),
  .inl (4, [.inr (.inr (.inl 11)), .inr (.inr (.inl 1)), .inr (.inr (.inl 28)), .inr (.inr (.inl 20)), .inr (.inr (.inl 21)), .inl 0, .inr (.inr (.inl 22)), .inr (.inr (.inl 23)), .inr (.inr (.inl 24)), .inr (.inr (.inl 25)), .inr (.inr (.inl 26)), .inr (.inr (.inl 27)), .inl 0, .inl 0, .inl 0, .inl 0]),
  .inr (0, 15, 256, [], .inl 0),
  .inr (0, 16, 20, [], .inl 0),
  .inr (0, 17, 64, [], .inl 0),
  .inr (0, 18, 64, [], .inl 0),
  .inr (0, 19, 64, [], .inl 0),
  .inr (0, 20, 64, [], .inl 0),
  .inr (0, 21, 64, [], .inl 0),
  .inr (0, 22, 64, [], .inl 0),
  .inl (5, [.inr (.inr (.inl 11)), .inr (.inr (.inl 1)), .inl 0, .inr (.inr (.inl 29)), .inr (.inr (.inl 30)), .inr (.inr (.inl 31)), .inr (.inr (.inl 32)), .inr (.inr (.inl 33)), .inr (.inr (.inl 34)), .inl 0, .inr (.inr (.inl 35)), .inr (.inr (.inl 36)), .inr (.inr (.inl 37)), .inr (.inr (.inl 38)), .inr (.inr (.inl 39)), .inl 0]),
  .inr (0, 23, 256, [], .inl 0),
  .inr (0, 24, 256, [], .inl 0),
  .inr (0, 25, 256, [], .inl 0),
  .inr (0, 26, 256, [], .inl 0),
  .inr (0, 27, 256, [], .inl 0),
  .inr (0, 28, 256, [], .inl 0),
  .inr (0, 29, 256, [], .inl 0),
  .inr (0, 30, 256, [], .inl 0),
  .inr (0, 31, 100, [], .inl 0),
  .inr (0, 32, 640, [], .inl 0),
  .inr (0, 33, 16, [], .inl 0),
  .inl (7, [.inr (.inr (.inl 11)), .inr (.inr (.inl 17)), .inr (.inr (.inl 19)), .inl 0, .inl 0, .inr (.inr (.inl 41)), .inr (.inr (.inl 42)), .inr (.inr (.inl 43)), .inr (.inr (.inl 44)), .inr (.inr (.inl 45))]),
  .inr (0, 34, 1240, [], .inl 0),
  .inr (0, 35, 1240, [], .inl 0),
  .inr (0, 36, 1240, [], .inl 0),
  .inr (0, 37, 1240, [], .inl 0),
  .inr (0, 38, 1240, [], .inl 0),
  .inl (10, [.inr (.inr (.inl 11)), .inr (.inr (.inl 40)), .inr (.inr (.inl 17)), .inr (.inr (.inl 19)), .inl 0, .inl 0, .inl 0, .inl 0, .inl 0, .inl 0, .inl 0, .inl 0, .inl 0, .inl 0, .inl 0]),
  .inl (2, [.inr (.inr (.inl 11)), .inr (.inr (.inl 46)), .inl 0, .inl 0, .inr (.inr (.inl 48)), .inr (.inr (.inl 49)), .inr (.inr (.inl 50)), .inl 0, .inl 0]),
  .inr (0, 39, 24, [], .inl 0),
  .inr (0, 40, 24, [], .inl 0),
  .inr (0, 41, 24, [], .inl 0),
  .inl (6, [.inr (.inr (.inl 11)), .inr (.inr (.inl 46)), .inl 0, .inl 0, .inr (.inr (.inl 52)), .inr (.inr (.inl 53)), .inr (.inr (.inl 54)), .inl 0, .inl 0]),
  .inr (0, 42, 240, [], .inl 0),
  .inr (0, 43, 240, [], .inl 0),
  .inr (0, 44, 240, [], .inl 0),
  .inl (1, [.inr (.inr (.inl 11)), .inr (.inr (.inl 1)), .inr (.inr (.inl 17)), .inr (.inr (.inl 40)), .inl 0, .inr (.inr (.inl 56)), .inr (.inr (.inl 57)), .inr (.inr (.inl 58)), .inl 0, .inr (.inr (.inl 59)), .inl 0, .inl 0, .inl 0, .inr (.inr (.inl 60))]),
  .inr (0, 45, 60, [], .inl 0),
  .inr (0, 46, 60, [], .inl 0),
  .inr (0, 47, 60, [], .inl 0),
  .inr (0, 48, 20, [], .inl 0),
  .inr (2, 49, 21, [], .inr (.inr (.inr (.inl (some 0))))),
  .inl (18, [.inl 0, .inl 0, .inr (.inr (.inl 62)), .inr (.inr (.inl 63)), .inl 0, .inr (.inr (.inl 64)), .inr (.inr (.inl 65)), .inr (.inr (.inl 66)), .inr (.inr (.inl 67)), .inr (.inr (.inl 68)), .inr (.inr (.inl 69)), .inr (.inr (.inl 70)), .inr (.inr (.inl 71)), .inr (.inr (.inl 72)), .inr (.inr (.inl 73)), .inr (.inr (.inl 74)), .inr (.inr (.inl 75)), .inr (.inr (.inl 76)), .inl 0, .inl 0, .inr (.inr (.inl 77)), .inr (.inr (.inl 78)), .inr (.inr (.inl 79)), .inl 0, .inl 0, .inl 0, .inl 0, .inl 0, .inr (.inr (.inl 80)), .inr (.inr (.inl 81)), .inr (.inr (.inl 82)), .inr (.inr (.inl 83)), .inr (.inr (.inl 84)), .inr (.inr (.inl 85)), .inr (.inr (.inl 86)), .inr (.inr (.inl 87)), .inr (.inr (.inl 88)), .inr (.inr (.inl 89)), .inl 0, .inl 0, .inl 0, .inr (.inr (.inl 90)), .inr (.inr (.inl 91)), .inl 0, .inr (.inr (.inl 92))]),
  .inr (1, 50, 64, [], .inl 0),
  .inr (0, 51, 10, [], .inl 0),
  .inr (0, 52, 16, [], .inl 0),
  .inr (0, 53, 16, [], .inl 0),
  .inr (0, 54, 16, [(15, .inl 4294967295), (14, .inl 4294967295), (13, .inl 4294967295), (12, .inl 4294967295), (11, .inl 4294967295), (10, .inl 4294967295), (9, .inl 4294967295), (8, .inl 4294967295), (7, .inl 4294967295), (6, .inl 4294967295), (5, .inl 4294967295), (4, .inl 4294967295), (3, .inl 4294967295), (2, .inl 4294967295), (1, .inl 4294967295), (0, .inl 4294967295)], .inl 0),
  .inr (0, 55, 16, [], .inl 0),
  .inr (0, 56, 48, [], .inl 0),
  .inr (0, 57, 144, [], .inl 0),
  .inr (0, 58, 64, [], .inl 0),
  .inr (0, 59, 16, [], .inl 0),
  .inl (0, [.inl 0, .inr (.inr (.inr (.inr 3))), .inl 0]),
  .inr (3, 60, 20, [], .inr (.inr (.inr (.inl none)))),
  .inl (0, [.inl 0, .inr (.inr (.inr (.inr 3))), .inl 0]),
  .inl (0, [.inl 0, .inr (.inr (.inr (.inr 3))), .inl 0]),
  .inl (0, [.inl 0, .inr (.inr (.inr (.inr 3))), .inl 0]),
  .inl (0, [.inl 0, .inr (.inr (.inr (.inr 3))), .inl 0]),
  .inr (0, 61, 24, [], .inl 0),
  .inr (1, 62, 576, [], .inl 0),
  .inr (3, 63, 0, [], .inr (.inr (.inr (.inl none)))),
  .inr (3, 64, 20, [(19, .inr (.inr (.inl 112))), (18, .inr (.inr (.inl 111))), (17, .inr (.inr (.inl 110))), (16, .inr (.inr (.inl 109))), (15, .inr (.inr (.inl 108))), (14, .inr (.inr (.inl 107))), (13, .inr (.inr (.inl 106))), (12, .inr (.inr (.inl 105))), (11, .inr (.inr (.inl 104))), (10, .inr (.inr (.inl 103))), (9, .inr (.inr (.inl 102))), (8, .inr (.inr (.inl 101))), (7, .inr (.inr (.inl 100))), (6, .inr (.inr (.inl 99))), (5, .inr (.inr (.inl 98))), (4, .inr (.inr (.inl 97))), (3, .inr (.inr (.inl 96))), (2, .inr (.inr (.inl 95))), (1, .inr (.inr (.inl 94))), (0, .inr (.inr (.inl 93)))], .inr (.inr (.inr (.inl none)))),
  .inr (3, 65, 20, [(9, .inr (.inr (.inl 112))), (8, .inr (.inr (.inl 111))), (7, .inr (.inr (.inl 110))), (6, .inr (.inr (.inl 109))), (5, .inr (.inr (.inl 108))), (4, .inr (.inr (.inl 107))), (3, .inr (.inr (.inl 106))), (2, .inr (.inr (.inl 105))), (1, .inr (.inr (.inl 104))), (0, .inr (.inr (.inl 103)))], .inr (.inr (.inr (.inl none)))),
  .inr (3, 66, 16, [], .inr (.inr (.inr (.inl none)))),
  .inr (3, 67, 32, [], .inr (.inr (.inr (.inl none)))),
  .inr (3, 68, 32, [], .inr (.inr (.inr (.inl none)))),
  .inr (0, 69, 32, [], .inl 0),
  .inr (0, 70, 32, [], .inl 0),
  .inr (3, 71, 10, [], .inr (.inr (.inr (.inl none)))),
  .inr (0, 72, 10, [], .inl 0),
  .inr (3, 73, 96, [], .inr (.inr (.inr (.inl none)))),
  .inl (0, [.inl 0, .inr (.inr (.inr (.inr 3))), .inl 0]),
  .inr (3, 74, 20, [], .inr (.inr (.inr (.inl none)))),
  .inl (17, [.inl 0, .inl 4294967295, .inr (.inr (.inl 80)), .inl 1, .inl 4294967295, .inr (.inr (.inr (.inl none)))]),
  .inl (17, [.inl 1, .inl 4294967295, .inr (.inr (.inl 80)), .inl 1, .inl 4294967295, .inr (.inr (.inr (.inl none)))]),
  .inl (17, [.inl 2, .inl 4294967295, .inr (.inr (.inl 80)), .inl 1, .inl 4294967295, .inr (.inr (.inr (.inl none)))]),
  .inl (17, [.inl 3, .inl 4294967295, .inr (.inr (.inl 80)), .inl 1, .inl 4294967295, .inr (.inr (.inr (.inl none)))]),
  .inl (17, [.inl 4, .inl 4294967295, .inr (.inr (.inl 80)), .inl 1, .inl 4294967295, .inr (.inr (.inr (.inl none)))]),
  .inl (17, [.inl 5, .inl 4294967295, .inr (.inr (.inl 80)), .inl 1, .inl 4294967295, .inr (.inr (.inr (.inl none)))]),
  .inl (17, [.inl 6, .inl 4294967295, .inr (.inr (.inl 80)), .inl 1, .inl 4294967295, .inr (.inr (.inr (.inl none)))]),
  .inl (17, [.inl 7, .inl 4294967295, .inr (.inr (.inl 80)), .inl 1, .inl 4294967295, .inr (.inr (.inr (.inl none)))]),
  .inl (17, [.inl 8, .inl 4294967295, .inr (.inr (.inl 80)), .inl 1, .inl 4294967295, .inr (.inr (.inr (.inl none)))]),
  .inl (17, [.inl 9, .inl 4294967295, .inr (.inr (.inl 80)), .inl 1, .inl 4294967295, .inr (.inr (.inr (.inl none)))]),
  .inl (17, [.inl 10, .inl 4294967295, .inr (.inr (.inl 80)), .inl 1, .inl 4294967295, .inr (.inr (.inr (.inl none)))]),
  .inl (17, [.inl 11, .inl 4294967295, .inr (.inr (.inl 80)), .inl 1, .inl 4294967295, .inr (.inr (.inr (.inl none)))]),
  .inl (17, [.inl 12, .inl 4294967295, .inr (.inr (.inl 80)), .inl 1, .inl 4294967295, .inr (.inr (.inr (.inl none)))]),
  .inl (17, [.inl 13, .inl 4294967295, .inr (.inr (.inl 80)), .inl 1, .inl 4294967295, .inr (.inr (.inr (.inl none)))]),
  .inl (17, [.inl 14, .inl 4294967295, .inr (.inr (.inl 80)), .inl 1, .inl 4294967295, .inr (.inr (.inr (.inl none)))]),
  .inl (17, [.inl 15, .inl 4294967295, .inr (.inr (.inl 80)), .inl 1, .inl 4294967295, .inr (.inr (.inr (.inl none)))]),
  .inl (17, [.inl 16, .inl 4294967295, .inr (.inr (.inl 80)), .inl 1, .inl 4294967295, .inr (.inr (.inr (.inl none)))]),
  .inl (17, [.inl 17, .inl 4294967295, .inr (.inr (.inl 80)), .inl 1, .inl 4294967295, .inr (.inr (.inr (.inl none)))]),
  .inl (17, [.inl 18, .inl 4294967295, .inr (.inr (.inl 80)), .inl 1, .inl 4294967295, .inr (.inr (.inr (.inl none)))]),
  .inl (17, [.inl 19, .inl 4294967295, .inr (.inr (.inl 80)), .inl 1, .inl 4294967295, .inr (.inr (.inr (.inl none)))]),
  .inr (2, 75, 1, [], .inr (.inr (.inr (.inl (some 0)))))]
def NT0 : Nat := 76
def U0 : Nat := 114
def V0 : Nat := 41522
def chkS (als : Als) : Bool := decide (als = STP)
def TF1 : List (List (Nat × Step)) := ((23, aStop chkS) :: tf_L_law) :: TF.drop 1
def eqC (a b : AC) : Bool :=
  match a, b with
  | .inl x, .inl y => decide (x.1 = y.1) && decide (x.2 = y.2)
  | .inr (a1, a2, a3, a4, a5), .inr (b1, b2, b3, b4, b5) => decide (a1 = b1) && (decide (a2 = b2) && (decide (a3 = b3) && (decide (a4 = b4) && decide (a5 = b5))))
  | _, _ => false
def eqH : List AC → List AC → Bool
  | [], [] => true
  | a :: l, b :: m => eqC a b && eqH l m
  | _, _ => false
theorem eqC_ok {a b : AC} (h : eqC a b = true) : a = b := by
  match a, b, h with
  | .inl (x1, x2), .inl (y1, y2), h =>
    have h := and_cases h
    have e1 : x1 = y1 := of_decide_eq_true h.1
    have e2 : x2 = y2 := of_decide_eq_true h.2
    rw [e1, e2]
  | .inr (a1, a2, a3, a4, a5), .inr (b1, b2, b3, b4, b5), h =>
    have h1 := and_cases h
    have h2 := and_cases h1.2
    have h3 := and_cases h2.2
    have h4 := and_cases h3.2
    have e1 : a1 = b1 := of_decide_eq_true h1.1
    have e2 : a2 = b2 := of_decide_eq_true h2.1
    have e3 : a3 = b3 := of_decide_eq_true h3.1
    have e4 : a4 = b4 := of_decide_eq_true h4.1
    have e5 : a5 = b5 := of_decide_eq_true h4.2
    rw [e1, e2, e3, e4, e5]
theorem eqH_ok (l : List AC) : ∀ m : List AC, eqH l m = true → l = m := by
  induction l with
  | nil =>
    intro m h
    cases m with
    | nil => rfl
    | cons b m => cases h
  | cons a l ih =>
    intro m h
    cases m with
    | nil => cases h
    | cons b m =>
      have h := and_cases h
      rw [eqC_ok h.1, ih m h.2]
def isP1 (r : Option Fin9) : Bool :=
  match r with
  | some (9, 23, .inl 0, h, nt, u, v) => eqH h AH0 && (decide (nt = NT0) && (decide (u = U0) && decide (v = V0)))
  | _ => false
theorem isP1_ok {r : Option Fin9} (h : isP1 r = true) : r = some (9, 23, .inl 0, AH0, NT0, U0, V0) := by
  unfold isP1 at h
  split at h
  · have h1 := and_cases h
    have h2 := and_cases h1.2
    have h3 := and_cases h2.2
    have e2 := of_decide_eq_true h2.1
    have e3 := of_decide_eq_true h3.1
    have e4 := of_decide_eq_true h3.2
    rw [eqH_ok _ _ h1.1, e2, e3, e4]
  · cases h
set_option maxRecDepth 100000 in
theorem ph1b : isP1 (run TF1 ([], 64, 0) 4000 20 0 0 [(0, SCR)] [] [] 0) = true := by decide +kernel
theorem ph1 : run TF1 ([], 64, 0) 4000 20 0 0 [(0, SCR)] [] [] 0 = some (9, 23, .inl 0, AH0, NT0, U0, V0) := isP1_ok ph1b
def okS (r : Option Fin9) : Bool :=
  match r with
  | some (0, _, .inl 1, _, _, u, v) => Nat.ble u 1000 && Nat.ble v 10000
  | _ => false
def go2 (ev : EV) : Option Fin9 := run TF ev 2000 20 0 23 STP [] AH0 NT0
def chk (m : Nat) : Nat → List (Nat × Nat) → List (Nat × Nat) → Option (List (Nat × Nat))
  | 0, _, _ => none
  | _ + 1, [], _ => none
  | n + 1, t :: ts, bnd => match t.1 with
    | 0 => match okS (go2 (bnd, m, 6)) with
      | true => some ts
      | false => none
    | k + 1 => match bnd[k + 1]? with
      | none => none
      | some q => match chk m n ts (bnd.set (k + 1) (q.1, t.2)) with
        | none => none
        | some ts' => chk m n ts' (bnd.set (k + 1) (t.2 + 1, q.2))
def FULL6 : List (Nat × Nat) := [(0, 4294967295), (0, 4294967295), (0, 4294967295), (0, 4294967295), (0, 4294967295), (0, 4294967295)]
