/-! the nest: worlds, stops and checks -/
abbrev rf (i : Nat) : AV := .inr (.inr (.inl i))
/-- the reference's cells as its reduce is called, and as its first reduced is -/
def NM : List AC := [.inl (18, [.inl 0, .inl 0, .inr (.inr (.inl 1)), .inr (.inr (.inl 2)), .inl 2, .inr (.inr (.inl 3)), .inr (.inr (.inl 4)), .inr (.inr (.inl 5)), .inr (.inr (.inl 6)), .inr (.inr (.inl 7)), .inr (.inr (.inl 8)), .inr (.inr (.inl 9)), .inr (.inr (.inl 10)), .inr (.inr (.inl 11)), .inr (.inr (.inl 12)), .inr (.inr (.inl 13)), .inr (.inr (.inl 14)), .inr (.inr (.inl 15)), .inl 0, .inl 0, .inr (.inr (.inl 16)), .inr (.inr (.inl 17)), .inr (.inr (.inl 18)), .inl 0, .inl 0, .inl 0, .inl 0, .inl 0, .inr (.inr (.inl 19)), .inr (.inr (.inl 20)), .inr (.inr (.inl 21)), .inr (.inr (.inl 22)), .inr (.inr (.inl 23)), .inr (.inr (.inl 24)), .inr (.inr (.inl 25)), .inr (.inr (.inl 26)), .inr (.inr (.inl 27)), .inr (.inr (.inl 28)), .inl 0, .inl 0, .inl 0, .inr (.inr (.inl 29)), .inr (.inr (.inl 30)), .inl 0, .inr (.inr (.inl 31))]),
  .inr (1, 0, 64, [], .inl 0),
  .inr (0, 1, 10, [], .inl 0),
  .inr (0, 2, 16, [(0, .inl 0), (1, .inl 1)], .inl 0),
  .inr (0, 3, 16, [(0, .inl 0), (1, .inl 0)], .inl 0),
  .inr (0, 4, 16, [(0, .inl 4294967295), (1, .inl 4294967295), (2, .inl 4294967295), (3, .inl 4294967295), (4, .inl 4294967295), (5, .inl 4294967295), (6, .inl 4294967295), (7, .inl 4294967295), (8, .inl 4294967295), (9, .inl 4294967295), (10, .inl 4294967295), (11, .inl 4294967295), (12, .inl 4294967295), (13, .inl 4294967295), (14, .inl 4294967295), (15, .inl 4294967295)], .inl 0),
  .inr (0, 5, 16, [], .inl 0),
  .inr (0, 6, 48, [], .inl 0),
  .inr (0, 7, 144, [], .inl 0),
  .inr (0, 8, 64, [(0, .inl 1), (1, .inl 1), (2, .inl 1), (3, .inl 1), (4, .inl 1), (5, .inl 1), (6, .inl 1), (7, .inl 1)], .inl 0),
  .inr (0, 9, 16, [(0, .inl 0), (1, .inl 1)], .inl 0),
  .inl (0, [.inl 43, .inr (.inr (.inl 55)), .inl 1]),
  .inr (3, 10, 20, [], .inr (.inr (.inr (.inl none)))),
  .inl (0, [.inl 1, .inr (.inr (.inl 97)), .inl 1]),
  .inl (0, [.inl 0, .inr (.inr (.inr (.inr 3))), .inl 0]),
  .inl (0, [.inl 0, .inr (.inr (.inr (.inr 3))), .inl 0]),
  .inl (0, [.inl 0, .inr (.inr (.inr (.inr 3))), .inl 0]),
  .inr (0, 11, 24, [], .inl 0),
  .inr (1, 12, 576, [], .inl 0),
  .inr (3, 13, 0, [], .inr (.inr (.inr (.inl none)))),
  .inr (3, 14, 20, [(0, .inr (.inr (.inl 32))), (1, .inr (.inr (.inl 33))), (2, .inr (.inr (.inl 34))), (3, .inr (.inr (.inl 35))), (4, .inr (.inr (.inl 36))), (5, .inr (.inr (.inl 37))), (6, .inr (.inr (.inl 38))), (7, .inr (.inr (.inl 39))), (8, .inr (.inr (.inl 40))), (9, .inr (.inr (.inl 41))), (10, .inr (.inr (.inl 42))), (11, .inr (.inr (.inl 43))), (12, .inr (.inr (.inl 44))), (13, .inr (.inr (.inl 45))), (14, .inr (.inr (.inl 46))), (15, .inr (.inr (.inl 47))), (16, .inr (.inr (.inl 48))), (17, .inr (.inr (.inl 49))), (18, .inr (.inr (.inl 50))), (19, .inr (.inr (.inl 51)))], .inr (.inr (.inr (.inl none)))),
  .inr (3, 15, 20, [(0, .inr (.inr (.inl 42))), (1, .inr (.inr (.inl 43))), (2, .inr (.inr (.inl 44))), (3, .inr (.inr (.inl 45))), (4, .inr (.inr (.inl 46))), (5, .inr (.inr (.inl 47))), (6, .inr (.inr (.inl 48))), (7, .inr (.inr (.inl 49))), (8, .inr (.inr (.inl 50))), (9, .inr (.inr (.inl 51)))], .inr (.inr (.inr (.inl none)))),
  .inr (3, 16, 16, [(0, .inr (.inr (.inr (.inl none)))), (1, .inr (.inr (.inr (.inl none))))], .inr (.inr (.inr (.inl none)))),
  .inr (3, 17, 32, [], .inr (.inr (.inr (.inl none)))),
  .inr (3, 18, 32, [], .inr (.inr (.inr (.inl none)))),
  .inr (0, 19, 32, [], .inl 0),
  .inr (0, 20, 32, [], .inl 0),
  .inr (3, 21, 10, [], .inr (.inr (.inr (.inl none)))),
  .inr (0, 22, 10, [], .inl 0),
  .inr (3, 23, 96, [], .inr (.inr (.inr (.inl none)))),
  .inl (0, [.inl 0, .inr (.inr (.inr (.inr 3))), .inl 0]),
  .inr (3, 24, 20, [], .inr (.inr (.inr (.inl none)))),
  .inl (17, [.inl 0, .inl 4294967295, .inr (.inr (.inl 19)), .inl 1, .inl 4294967295, .inr (.inr (.inr (.inl none)))]),
  .inl (17, [.inl 1, .inl 4294967295, .inr (.inr (.inl 19)), .inl 1, .inl 4294967295, .inr (.inr (.inr (.inl none)))]),
  .inl (17, [.inl 2, .inl 4294967295, .inr (.inr (.inl 19)), .inl 1, .inl 4294967295, .inr (.inr (.inr (.inl none)))]),
  .inl (17, [.inl 3, .inl 4294967295, .inr (.inr (.inl 19)), .inl 1, .inl 4294967295, .inr (.inr (.inr (.inl none)))]),
  .inl (17, [.inl 4, .inl 4294967295, .inr (.inr (.inl 19)), .inl 1, .inl 4294967295, .inr (.inr (.inr (.inl none)))]),
  .inl (17, [.inl 5, .inl 4294967295, .inr (.inr (.inl 19)), .inl 1, .inl 4294967295, .inr (.inr (.inr (.inl none)))]),
  .inl (17, [.inl 6, .inl 4294967295, .inr (.inr (.inl 19)), .inl 1, .inl 4294967295, .inr (.inr (.inr (.inl none)))]),
  .inl (17, [.inl 7, .inl 4294967295, .inr (.inr (.inl 19)), .inl 1, .inl 4294967295, .inr (.inr (.inr (.inl none)))]),
  .inl (17, [.inl 8, .inl 4294967295, .inr (.inr (.inl 19)), .inl 1, .inl 4294967295, .inr (.inr (.inr (.inl none)))]),
  .inl (17, [.inl 9, .inl 4294967295, .inr (.inr (.inl 19)), .inl 1, .inl 4294967295, .inr (.inr (.inr (.inl none)))]),
  .inl (17, [.inl 10, .inl 4294967295, .inr (.inr (.inl 19)), .inl 1, .inl 4294967295, .inr (.inr (.inr (.inl none)))]),
  .inl (17, [.inl 11, .inl 4294967295, .inr (.inr (.inl 19)), .inl 1, .inl 4294967295, .inr (.inr (.inr (.inl none)))]),
  .inl (17, [.inl 12, .inl 4294967295, .inr (.inr (.inl 19)), .inl 1, .inl 4294967295, .inr (.inr (.inr (.inl none)))]),
  .inl (17, [.inl 13, .inl 4294967295, .inr (.inr (.inl 19)), .inl 1, .inl 4294967295, .inr (.inr (.inr (.inl none)))]),
  .inl (17, [.inl 14, .inl 4294967295, .inr (.inr (.inl 19)), .inl 1, .inl 4294967295, .inr (.inr (.inr (.inl none)))]),
  .inl (17, [.inl 15, .inl 4294967295, .inr (.inr (.inl 19)), .inl 1, .inl 4294967295, .inr (.inr (.inr (.inl none)))]),
  .inl (17, [.inl 16, .inl 4294967295, .inr (.inr (.inl 19)), .inl 1, .inl 4294967295, .inr (.inr (.inr (.inl none)))]),
  .inl (17, [.inl 17, .inl 4294967295, .inr (.inr (.inl 19)), .inl 1, .inl 4294967295, .inr (.inr (.inr (.inl none)))]),
  .inl (17, [.inl 18, .inl 4294967295, .inr (.inr (.inl 19)), .inl 1, .inl 4294967295, .inr (.inr (.inr (.inl none)))]),
  .inl (17, [.inl 19, .inl 4294967295, .inr (.inr (.inl 19)), .inl 1, .inl 4294967295, .inr (.inr (.inr (.inl none)))]),
  .inr (2, 25, 1, [(0, .inr (.inr (.inr (.inl (some 18446744073709551614)))))], .inr (.inr (.inr (.inl (some 0))))),
  .inr (3, 26, 0, [], .inr (.inr (.inr (.inl none)))),
  .inl (17, [.inl 4294967295, .inl 0, .inr (.inr (.inl 53)), .inl 1, .inl 4294967295, .inr (.inr (.inr (.inl none)))]),
  .inr (4, 27, 10, [(0, .inr (.inr (.inl 99))), (1, .inr (.inr (.inr (.inl none))))], .inr (.inr (.inr (.inl none)))),
  .inr (3, 28, 0, [], .inr (.inr (.inr (.inl none)))),
  .inl (17, [.inl 4294967295, .inl 0, .inr (.inr (.inl 56)), .inl 1, .inl 4294967295, .inr (.inr (.inr (.inl none)))]),
  .inr (3, 29, 1, [(0, .inr (.inr (.inl 57)))], .inr (.inr (.inr (.inl none)))),
  .inl (17, [.inl 4294967295, .inl 1, .inr (.inr (.inl 58)), .inl 2, .inl 4294967295, .inr (.inr (.inr (.inl none)))]),
  .inr (3, 30, 1, [(0, .inr (.inr (.inl 59)))], .inr (.inr (.inr (.inl none)))),
  .inl (17, [.inl 4294967295, .inl 1, .inr (.inr (.inl 60)), .inl 3, .inl 4294967295, .inr (.inr (.inr (.inl none)))]),
  .inr (3, 31, 1, [(0, .inr (.inr (.inl 61)))], .inr (.inr (.inr (.inl none)))),
  .inl (17, [.inl 4294967295, .inl 1, .inr (.inr (.inl 62)), .inl 4, .inl 4294967295, .inr (.inr (.inr (.inl none)))]),
  .inr (3, 32, 1, [(0, .inr (.inr (.inl 63)))], .inr (.inr (.inr (.inl none)))),
  .inl (17, [.inl 4294967295, .inl 1, .inr (.inr (.inl 64)), .inl 5, .inl 4294967295, .inr (.inr (.inr (.inl none)))]),
  .inr (3, 33, 1, [(0, .inr (.inr (.inl 65)))], .inr (.inr (.inr (.inl none)))),
  .inl (17, [.inl 4294967295, .inl 1, .inr (.inr (.inl 66)), .inl 6, .inl 4294967295, .inr (.inr (.inr (.inl none)))]),
  .inr (3, 34, 1, [(0, .inr (.inr (.inl 67)))], .inr (.inr (.inr (.inl none)))),
  .inl (17, [.inl 4294967295, .inl 1, .inr (.inr (.inl 68)), .inl 7, .inl 4294967295, .inr (.inr (.inr (.inl none)))]),
  .inr (3, 35, 1, [(0, .inr (.inr (.inl 69)))], .inr (.inr (.inr (.inl none)))),
  .inl (17, [.inl 4294967295, .inl 1, .inr (.inr (.inl 70)), .inl 8, .inl 4294967295, .inr (.inr (.inr (.inl none)))]),
  .inr (3, 36, 1, [(0, .inr (.inr (.inl 71)))], .inr (.inr (.inr (.inl none)))),
  .inl (17, [.inl 4294967295, .inl 1, .inr (.inr (.inl 72)), .inl 9, .inl 4294967295, .inr (.inr (.inr (.inl none)))]),
  .inr (3, 37, 1, [(0, .inr (.inr (.inl 73)))], .inr (.inr (.inr (.inl none)))),
  .inl (17, [.inl 4294967295, .inl 1, .inr (.inr (.inl 74)), .inl 10, .inl 4294967295, .inr (.inr (.inr (.inl none)))]),
  .inr (3, 38, 1, [(0, .inr (.inr (.inl 75)))], .inr (.inr (.inr (.inl none)))),
  .inl (17, [.inl 4294967295, .inl 1, .inr (.inr (.inl 76)), .inl 11, .inl 4294967295, .inr (.inr (.inr (.inl none)))]),
  .inr (3, 39, 1, [(0, .inr (.inr (.inl 77)))], .inr (.inr (.inr (.inl none)))),
  .inl (17, [.inl 4294967295, .inl 1, .inr (.inr (.inl 78)), .inl 12, .inl 4294967295, .inr (.inr (.inr (.inl none)))]),
  .inr (3, 40, 1, [(0, .inr (.inr (.inl 79)))], .inr (.inr (.inr (.inl none)))),
  .inl (17, [.inl 4294967295, .inl 1, .inr (.inr (.inl 80)), .inl 13, .inl 4294967295, .inr (.inr (.inr (.inl none)))]),
  .inr (3, 41, 1, [(0, .inr (.inr (.inl 81)))], .inr (.inr (.inr (.inl none)))),
  .inl (17, [.inl 4294967295, .inl 1, .inr (.inr (.inl 82)), .inl 14, .inl 4294967295, .inr (.inr (.inr (.inl none)))]),
  .inr (3, 42, 1, [(0, .inr (.inr (.inl 83)))], .inr (.inr (.inr (.inl none)))),
  .inl (17, [.inl 4294967295, .inl 1, .inr (.inr (.inl 84)), .inl 15, .inl 4294967295, .inr (.inr (.inr (.inl none)))]),
  .inr (3, 43, 1, [(0, .inr (.inr (.inl 85)))], .inr (.inr (.inr (.inl none)))),
  .inl (17, [.inl 4294967295, .inl 1, .inr (.inr (.inl 86)), .inl 16, .inl 4294967295, .inr (.inr (.inr (.inl none)))]),
  .inr (3, 44, 1, [(0, .inr (.inr (.inl 87)))], .inr (.inr (.inr (.inl none)))),
  .inl (17, [.inl 4294967295, .inl 1, .inr (.inr (.inl 88)), .inl 17, .inl 4294967295, .inr (.inr (.inr (.inl none)))]),
  .inr (3, 45, 1, [(0, .inr (.inr (.inl 89)))], .inr (.inr (.inr (.inl none)))),
  .inl (17, [.inl 4294967295, .inl 1, .inr (.inr (.inl 90)), .inl 18, .inl 4294967295, .inr (.inr (.inr (.inl none)))]),
  .inr (3, 46, 1, [(0, .inr (.inr (.inl 91)))], .inr (.inr (.inr (.inl none)))),
  .inl (17, [.inl 4294967295, .inl 1, .inr (.inr (.inl 92)), .inl 19, .inl 4294967295, .inr (.inr (.inr (.inl none)))]),
  .inr (3, 47, 1, [(0, .inr (.inr (.inl 93)))], .inr (.inr (.inr (.inl none)))),
  .inl (17, [.inl 4294967295, .inl 1, .inr (.inr (.inl 94)), .inl 20, .inl 4294967295, .inr (.inr (.inr (.inl none)))]),
  .inl (14, [.inr (.inr (.inl 54)), .inr (.inr (.inl 95)), .inr (.inr (.inr (.inl none))), .inr (.inr (.inr (.inl none))), .inr (.inr (.inr (.inl none))), .inr (.inr (.inr (.inl none)))]),
  .inr (4, 48, 10, [(0, .inr (.inr (.inl 96)))], .inr (.inr (.inr (.inl none)))),
  .inr (3, 49, 0, [], .inr (.inr (.inr (.inl none)))),
  .inl (17, [.inl 4294967295, .inl 0, .inr (.inr (.inl 98)), .inl 1, .inl 4294967295, .inr (.inr (.inr (.inl none)))])]
def NW : List AC := NM
def NW1 : List AC := [.inl (18, [.inl 0, .inl 0, .inr (.inr (.inl 1)), .inr (.inr (.inl 2)), .inl 2, .inr (.inr (.inl 3)), .inr (.inr (.inl 4)), .inr (.inr (.inl 5)), .inr (.inr (.inl 6)), .inr (.inr (.inl 7)), .inr (.inr (.inl 8)), .inr (.inr (.inl 9)), .inr (.inr (.inl 10)), .inr (.inr (.inl 11)), .inr (.inr (.inl 12)), .inr (.inr (.inl 13)), .inr (.inr (.inl 14)), .inr (.inr (.inl 15)), .inl 0, .inl 0, .inr (.inr (.inl 16)), .inr (.inr (.inl 17)), .inr (.inr (.inl 18)), .inl 0, .inl 0, .inl 0, .inl 0, .inl 0, .inr (.inr (.inl 19)), .inr (.inr (.inl 20)), .inr (.inr (.inl 21)), .inr (.inr (.inl 22)), .inr (.inr (.inl 23)), .inr (.inr (.inl 24)), .inr (.inr (.inl 25)), .inr (.inr (.inl 26)), .inr (.inr (.inl 27)), .inr (.inr (.inl 28)), .inl 0, .inl 1, .inl 1, .inr (.inr (.inl 29)), .inr (.inr (.inl 30)), .inl 0, .inr (.inr (.inl 31))]),
  .inr (1, 0, 64, [], .inl 0),
  .inr (0, 1, 10, [], .inl 0),
  .inr (0, 2, 16, [(0, .inl 0), (1, .inl 1)], .inl 0),
  .inr (0, 3, 16, [(0, .inl 0), (1, .inl 0)], .inl 0),
  .inr (0, 4, 16, [(0, .inl 4294967295), (1, .inl 4294967295), (2, .inl 4294967295), (3, .inl 4294967295), (4, .inl 4294967295), (5, .inl 4294967295), (6, .inl 4294967295), (7, .inl 4294967295), (8, .inl 4294967295), (9, .inl 4294967295), (10, .inl 4294967295), (11, .inl 4294967295), (12, .inl 4294967295), (13, .inl 4294967295), (14, .inl 4294967295), (15, .inl 4294967295)], .inl 0),
  .inr (0, 5, 16, [], .inl 0),
  .inr (0, 6, 48, [], .inl 0),
  .inr (0, 7, 144, [], .inl 0),
  .inr (0, 8, 64, [(0, .inl 1), (1, .inl 1), (2, .inl 1), (3, .inl 1), (4, .inl 1), (5, .inl 1), (6, .inl 1), (7, .inl 1)], .inl 0),
  .inr (0, 9, 16, [(0, .inl 0), (1, .inl 1)], .inl 0),
  .inl (0, [.inl 43, .inr (.inr (.inl 55)), .inl 1]),
  .inr (3, 10, 20, [], .inr (.inr (.inr (.inl none)))),
  .inl (0, [.inl 1, .inr (.inr (.inl 97)), .inl 1]),
  .inl (0, [.inl 0, .inr (.inr (.inr (.inr 3))), .inl 0]),
  .inl (0, [.inl 0, .inr (.inr (.inr (.inr 3))), .inl 0]),
  .inl (0, [.inl 0, .inr (.inr (.inr (.inr 3))), .inl 0]),
  .inr (0, 11, 24, [], .inl 0),
  .inr (1, 12, 576, [], .inl 0),
  .inr (3, 13, 0, [], .inr (.inr (.inr (.inl none)))),
  .inr (3, 14, 20, [(0, .inr (.inr (.inl 32))), (1, .inr (.inr (.inl 33))), (2, .inr (.inr (.inl 34))), (3, .inr (.inr (.inl 35))), (4, .inr (.inr (.inl 36))), (5, .inr (.inr (.inl 37))), (6, .inr (.inr (.inl 38))), (7, .inr (.inr (.inl 39))), (8, .inr (.inr (.inl 40))), (9, .inr (.inr (.inl 41))), (10, .inr (.inr (.inl 42))), (11, .inr (.inr (.inl 43))), (12, .inr (.inr (.inl 44))), (13, .inr (.inr (.inl 45))), (14, .inr (.inr (.inl 46))), (15, .inr (.inr (.inl 47))), (16, .inr (.inr (.inl 48))), (17, .inr (.inr (.inl 49))), (18, .inr (.inr (.inl 50))), (19, .inr (.inr (.inl 51)))], .inr (.inr (.inr (.inl none)))),
  .inr (3, 15, 20, [(0, .inr (.inr (.inl 42))), (1, .inr (.inr (.inl 43))), (2, .inr (.inr (.inl 44))), (3, .inr (.inr (.inl 45))), (4, .inr (.inr (.inl 46))), (5, .inr (.inr (.inl 47))), (6, .inr (.inr (.inl 48))), (7, .inr (.inr (.inl 49))), (8, .inr (.inr (.inl 50))), (9, .inr (.inr (.inl 51)))], .inr (.inr (.inr (.inl none)))),
  .inr (3, 16, 16, [(0, .inr (.inr (.inr (.inl none)))), (1, .inr (.inr (.inr (.inl none))))], .inr (.inr (.inr (.inl none)))),
  .inr (3, 17, 32, [(0, .inr (.inr (.inl 54)))], .inr (.inr (.inr (.inl none)))),
  .inr (3, 18, 32, [(0, .inr (.inr (.inl 99)))], .inr (.inr (.inr (.inl none)))),
  .inr (0, 19, 32, [(0, .inl 4294967295)], .inl 0),
  .inr (0, 20, 32, [(0, .inl 0)], .inl 0),
  .inr (3, 21, 10, [], .inr (.inr (.inr (.inl none)))),
  .inr (0, 22, 10, [], .inl 0),
  .inr (3, 23, 96, [], .inr (.inr (.inr (.inl none)))),
  .inl (0, [.inl 0, .inr (.inr (.inr (.inr 3))), .inl 0]),
  .inr (3, 24, 20, [], .inr (.inr (.inr (.inl none)))),
  .inl (17, [.inl 0, .inl 4294967295, .inr (.inr (.inl 19)), .inl 1, .inl 4294967295, .inr (.inr (.inr (.inl none)))]),
  .inl (17, [.inl 1, .inl 4294967295, .inr (.inr (.inl 19)), .inl 1, .inl 4294967295, .inr (.inr (.inr (.inl none)))]),
  .inl (17, [.inl 2, .inl 4294967295, .inr (.inr (.inl 19)), .inl 1, .inl 4294967295, .inr (.inr (.inr (.inl none)))]),
  .inl (17, [.inl 3, .inl 4294967295, .inr (.inr (.inl 19)), .inl 1, .inl 4294967295, .inr (.inr (.inr (.inl none)))]),
  .inl (17, [.inl 4, .inl 4294967295, .inr (.inr (.inl 19)), .inl 1, .inl 4294967295, .inr (.inr (.inr (.inl none)))]),
  .inl (17, [.inl 5, .inl 4294967295, .inr (.inr (.inl 19)), .inl 1, .inl 4294967295, .inr (.inr (.inr (.inl none)))]),
  .inl (17, [.inl 6, .inl 4294967295, .inr (.inr (.inl 19)), .inl 1, .inl 4294967295, .inr (.inr (.inr (.inl none)))]),
  .inl (17, [.inl 7, .inl 4294967295, .inr (.inr (.inl 19)), .inl 1, .inl 4294967295, .inr (.inr (.inr (.inl none)))]),
  .inl (17, [.inl 8, .inl 4294967295, .inr (.inr (.inl 19)), .inl 1, .inl 4294967295, .inr (.inr (.inr (.inl none)))]),
  .inl (17, [.inl 9, .inl 4294967295, .inr (.inr (.inl 19)), .inl 1, .inl 4294967295, .inr (.inr (.inr (.inl none)))]),
  .inl (17, [.inl 10, .inl 4294967295, .inr (.inr (.inl 19)), .inl 1, .inl 4294967295, .inr (.inr (.inr (.inl none)))]),
  .inl (17, [.inl 11, .inl 4294967295, .inr (.inr (.inl 19)), .inl 1, .inl 4294967295, .inr (.inr (.inr (.inl none)))]),
  .inl (17, [.inl 12, .inl 4294967295, .inr (.inr (.inl 19)), .inl 1, .inl 4294967295, .inr (.inr (.inr (.inl none)))]),
  .inl (17, [.inl 13, .inl 4294967295, .inr (.inr (.inl 19)), .inl 1, .inl 4294967295, .inr (.inr (.inr (.inl none)))]),
  .inl (17, [.inl 14, .inl 4294967295, .inr (.inr (.inl 19)), .inl 1, .inl 4294967295, .inr (.inr (.inr (.inl none)))]),
  .inl (17, [.inl 15, .inl 4294967295, .inr (.inr (.inl 19)), .inl 1, .inl 4294967295, .inr (.inr (.inr (.inl none)))]),
  .inl (17, [.inl 16, .inl 4294967295, .inr (.inr (.inl 19)), .inl 1, .inl 4294967295, .inr (.inr (.inr (.inl none)))]),
  .inl (17, [.inl 17, .inl 4294967295, .inr (.inr (.inl 19)), .inl 1, .inl 4294967295, .inr (.inr (.inr (.inl none)))]),
  .inl (17, [.inl 18, .inl 4294967295, .inr (.inr (.inl 19)), .inl 1, .inl 4294967295, .inr (.inr (.inr (.inl none)))]),
  .inl (17, [.inl 19, .inl 4294967295, .inr (.inr (.inl 19)), .inl 1, .inl 4294967295, .inr (.inr (.inr (.inl none)))]),
  .inr (2, 25, 1, [(0, .inr (.inr (.inr (.inl (some 18446744073709551614)))))], .inr (.inr (.inr (.inl (some 0))))),
  .inr (3, 26, 0, [], .inr (.inr (.inr (.inl none)))),
  .inl (17, [.inl 4294967295, .inl 0, .inr (.inr (.inl 53)), .inl 1, .inl 4294967295, .inr (.inr (.inr (.inl none)))]),
  .inr (4, 27, 10, [(0, .inr (.inr (.inl 99))), (1, .inr (.inr (.inr (.inl none))))], .inr (.inr (.inr (.inl none)))),
  .inr (3, 28, 0, [], .inr (.inr (.inr (.inl none)))),
  .inl (17, [.inl 4294967295, .inl 0, .inr (.inr (.inl 56)), .inl 1, .inl 4294967295, .inr (.inr (.inr (.inl none)))]),
  .inr (3, 29, 1, [(0, .inr (.inr (.inl 57)))], .inr (.inr (.inr (.inl none)))),
  .inl (17, [.inl 4294967295, .inl 1, .inr (.inr (.inl 58)), .inl 2, .inl 4294967295, .inr (.inr (.inr (.inl none)))]),
  .inr (3, 30, 1, [(0, .inr (.inr (.inl 59)))], .inr (.inr (.inr (.inl none)))),
  .inl (17, [.inl 4294967295, .inl 1, .inr (.inr (.inl 60)), .inl 3, .inl 4294967295, .inr (.inr (.inr (.inl none)))]),
  .inr (3, 31, 1, [(0, .inr (.inr (.inl 61)))], .inr (.inr (.inr (.inl none)))),
  .inl (17, [.inl 4294967295, .inl 1, .inr (.inr (.inl 62)), .inl 4, .inl 4294967295, .inr (.inr (.inr (.inl none)))]),
  .inr (3, 32, 1, [(0, .inr (.inr (.inl 63)))], .inr (.inr (.inr (.inl none)))),
  .inl (17, [.inl 4294967295, .inl 1, .inr (.inr (.inl 64)), .inl 5, .inl 4294967295, .inr (.inr (.inr (.inl none)))]),
  .inr (3, 33, 1, [(0, .inr (.inr (.inl 65)))], .inr (.inr (.inr (.inl none)))),
  .inl (17, [.inl 4294967295, .inl 1, .inr (.inr (.inl 66)), .inl 6, .inl 4294967295, .inr (.inr (.inr (.inl none)))]),
  .inr (3, 34, 1, [(0, .inr (.inr (.inl 67)))], .inr (.inr (.inr (.inl none)))),
  .inl (17, [.inl 4294967295, .inl 1, .inr (.inr (.inl 68)), .inl 7, .inl 4294967295, .inr (.inr (.inr (.inl none)))]),
  .inr (3, 35, 1, [(0, .inr (.inr (.inl 69)))], .inr (.inr (.inr (.inl none)))),
  .inl (17, [.inl 4294967295, .inl 1, .inr (.inr (.inl 70)), .inl 8, .inl 4294967295, .inr (.inr (.inr (.inl none)))]),
  .inr (3, 36, 1, [(0, .inr (.inr (.inl 71)))], .inr (.inr (.inr (.inl none)))),
  .inl (17, [.inl 4294967295, .inl 1, .inr (.inr (.inl 72)), .inl 9, .inl 4294967295, .inr (.inr (.inr (.inl none)))]),
  .inr (3, 37, 1, [(0, .inr (.inr (.inl 73)))], .inr (.inr (.inr (.inl none)))),
  .inl (17, [.inl 4294967295, .inl 1, .inr (.inr (.inl 74)), .inl 10, .inl 4294967295, .inr (.inr (.inr (.inl none)))]),
  .inr (3, 38, 1, [(0, .inr (.inr (.inl 75)))], .inr (.inr (.inr (.inl none)))),
  .inl (17, [.inl 4294967295, .inl 1, .inr (.inr (.inl 76)), .inl 11, .inl 4294967295, .inr (.inr (.inr (.inl none)))]),
  .inr (3, 39, 1, [(0, .inr (.inr (.inl 77)))], .inr (.inr (.inr (.inl none)))),
  .inl (17, [.inl 4294967295, .inl 1, .inr (.inr (.inl 78)), .inl 12, .inl 4294967295, .inr (.inr (.inr (.inl none)))]),
  .inr (3, 40, 1, [(0, .inr (.inr (.inl 79)))], .inr (.inr (.inr (.inl none)))),
  .inl (17, [.inl 4294967295, .inl 1, .inr (.inr (.inl 80)), .inl 13, .inl 4294967295, .inr (.inr (.inr (.inl none)))]),
  .inr (3, 41, 1, [(0, .inr (.inr (.inl 81)))], .inr (.inr (.inr (.inl none)))),
  .inl (17, [.inl 4294967295, .inl 1, .inr (.inr (.inl 82)), .inl 14, .inl 4294967295, .inr (.inr (.inr (.inl none)))]),
  .inr (3, 42, 1, [(0, .inr (.inr (.inl 83)))], .inr (.inr (.inr (.inl none)))),
  .inl (17, [.inl 4294967295, .inl 1, .inr (.inr (.inl 84)), .inl 15, .inl 4294967295, .inr (.inr (.inr (.inl none)))]),
  .inr (3, 43, 1, [(0, .inr (.inr (.inl 85)))], .inr (.inr (.inr (.inl none)))),
  .inl (17, [.inl 4294967295, .inl 1, .inr (.inr (.inl 86)), .inl 16, .inl 4294967295, .inr (.inr (.inr (.inl none)))]),
  .inr (3, 44, 1, [(0, .inr (.inr (.inl 87)))], .inr (.inr (.inr (.inl none)))),
  .inl (17, [.inl 4294967295, .inl 1, .inr (.inr (.inl 88)), .inl 17, .inl 4294967295, .inr (.inr (.inr (.inl none)))]),
  .inr (3, 45, 1, [(0, .inr (.inr (.inl 89)))], .inr (.inr (.inr (.inl none)))),
  .inl (17, [.inl 4294967295, .inl 1, .inr (.inr (.inl 90)), .inl 18, .inl 4294967295, .inr (.inr (.inr (.inl none)))]),
  .inr (3, 46, 1, [(0, .inr (.inr (.inl 91)))], .inr (.inr (.inr (.inl none)))),
  .inl (17, [.inl 4294967295, .inl 1, .inr (.inr (.inl 92)), .inl 19, .inl 4294967295, .inr (.inr (.inr (.inl none)))]),
  .inr (3, 47, 1, [(0, .inr (.inr (.inl 93)))], .inr (.inr (.inr (.inl none)))),
  .inl (17, [.inl 4294967295, .inl 1, .inr (.inr (.inl 94)), .inl 20, .inl 4294967295, .inr (.inr (.inr (.inl none)))]),
  .inl (14, [.inr (.inr (.inl 54)), .inr (.inr (.inl 95)), .inr (.inr (.inr (.inl none))), .inr (.inr (.inr (.inl none))), .inr (.inr (.inr (.inl none))), .inr (.inr (.inr (.inl none)))]),
  .inr (4, 48, 10, [(0, .inr (.inr (.inl 96)))], .inr (.inr (.inr (.inl none)))),
  .inr (3, 49, 0, [], .inr (.inr (.inr (.inl none)))),
  .inl (17, [.inl 4294967295, .inl 0, .inr (.inr (.inl 98)), .inl 1, .inl 4294967295, .inr (.inr (.inr (.inl none)))])]
def NW2 : List AC := [.inl (18, [.inl 0, .inl 0, .inr (.inr (.inl 1)), .inr (.inr (.inl 2)), .inl 2, .inr (.inr (.inl 3)), .inr (.inr (.inl 4)), .inr (.inr (.inl 5)), .inr (.inr (.inl 6)), .inr (.inr (.inl 7)), .inr (.inr (.inl 8)), .inr (.inr (.inl 9)), .inr (.inr (.inl 10)), .inr (.inr (.inl 11)), .inr (.inr (.inl 12)), .inr (.inr (.inl 13)), .inr (.inr (.inl 14)), .inr (.inr (.inl 15)), .inl 0, .inl 0, .inr (.inr (.inl 16)), .inr (.inr (.inl 17)), .inr (.inr (.inl 18)), .inl 0, .inl 0, .inl 0, .inl 0, .inl 0, .inr (.inr (.inl 19)), .inr (.inr (.inl 20)), .inr (.inr (.inl 21)), .inr (.inr (.inl 22)), .inr (.inr (.inl 23)), .inr (.inr (.inl 24)), .inr (.inr (.inl 25)), .inr (.inr (.inl 26)), .inr (.inr (.inl 27)), .inr (.inr (.inl 28)), .inl 0, .inl 1, .inl 1, .inr (.inr (.inl 29)), .inr (.inr (.inl 30)), .inl 0, .inr (.inr (.inl 31))]),
  .inr (1, 0, 64, [], .inl 0),
  .inr (0, 1, 10, [], .inl 0),
  .inr (0, 2, 16, [(0, .inl 0), (1, .inl 1)], .inl 0),
  .inr (0, 3, 16, [(0, .inl 0), (1, .inl 0)], .inl 0),
  .inr (0, 4, 16, [(0, .inl 4294967295), (1, .inl 4294967295), (2, .inl 4294967295), (3, .inl 4294967295), (4, .inl 4294967295), (5, .inl 4294967295), (6, .inl 4294967295), (7, .inl 4294967295), (8, .inl 4294967295), (9, .inl 4294967295), (10, .inl 4294967295), (11, .inl 4294967295), (12, .inl 4294967295), (13, .inl 4294967295), (14, .inl 4294967295), (15, .inl 4294967295)], .inl 0),
  .inr (0, 5, 16, [], .inl 0),
  .inr (0, 6, 48, [], .inl 0),
  .inr (0, 7, 144, [], .inl 0),
  .inr (0, 8, 64, [(0, .inl 1), (1, .inl 1), (2, .inl 1), (3, .inl 1), (4, .inl 1), (5, .inl 1), (6, .inl 1), (7, .inl 1)], .inl 0),
  .inr (0, 9, 16, [(0, .inl 0), (1, .inl 1)], .inl 0),
  .inl (0, [.inl 43, .inr (.inr (.inl 55)), .inl 1]),
  .inr (3, 10, 20, [], .inr (.inr (.inr (.inl none)))),
  .inl (0, [.inl 1, .inr (.inr (.inl 97)), .inl 1]),
  .inl (0, [.inl 0, .inr (.inr (.inr (.inr 3))), .inl 0]),
  .inl (0, [.inl 0, .inr (.inr (.inr (.inr 3))), .inl 0]),
  .inl (0, [.inl 0, .inr (.inr (.inr (.inr 3))), .inl 0]),
  .inr (0, 11, 24, [], .inl 0),
  .inr (1, 12, 576, [], .inl 0),
  .inr (3, 13, 0, [], .inr (.inr (.inr (.inl none)))),
  .inr (3, 14, 20, [(0, .inr (.inr (.inl 32))), (1, .inr (.inr (.inl 33))), (2, .inr (.inr (.inl 34))), (3, .inr (.inr (.inl 35))), (4, .inr (.inr (.inl 36))), (5, .inr (.inr (.inl 37))), (6, .inr (.inr (.inl 38))), (7, .inr (.inr (.inl 39))), (8, .inr (.inr (.inl 40))), (9, .inr (.inr (.inl 41))), (10, .inr (.inr (.inl 42))), (11, .inr (.inr (.inl 43))), (12, .inr (.inr (.inl 44))), (13, .inr (.inr (.inl 45))), (14, .inr (.inr (.inl 46))), (15, .inr (.inr (.inl 47))), (16, .inr (.inr (.inl 48))), (17, .inr (.inr (.inl 49))), (18, .inr (.inr (.inl 50))), (19, .inr (.inr (.inl 51)))], .inr (.inr (.inr (.inl none)))),
  .inr (3, 15, 20, [(0, .inr (.inr (.inl 42))), (1, .inr (.inr (.inl 43))), (2, .inr (.inr (.inl 44))), (3, .inr (.inr (.inl 45))), (4, .inr (.inr (.inl 46))), (5, .inr (.inr (.inl 47))), (6, .inr (.inr (.inl 48))), (7, .inr (.inr (.inl 49))), (8, .inr (.inr (.inl 50))), (9, .inr (.inr (.inl 51)))], .inr (.inr (.inr (.inl none)))),
  .inr (3, 16, 16, [(0, .inr (.inr (.inr (.inl none)))), (1, .inr (.inr (.inr (.inl none))))], .inr (.inr (.inr (.inl none)))),
  .inr (3, 17, 32, [(0, .inr (.inr (.inl 54)))], .inr (.inr (.inr (.inl none)))),
  .inr (3, 18, 32, [(0, .inr (.inr (.inl 57)))], .inr (.inr (.inr (.inl none)))),
  .inr (0, 19, 32, [(0, .inl 4294967295)], .inl 0),
  .inr (0, 20, 32, [(0, .inl 0)], .inl 0),
  .inr (3, 21, 10, [], .inr (.inr (.inr (.inl none)))),
  .inr (0, 22, 10, [], .inl 0),
  .inr (3, 23, 96, [], .inr (.inr (.inr (.inl none)))),
  .inl (0, [.inl 0, .inr (.inr (.inr (.inr 3))), .inl 0]),
  .inr (3, 24, 20, [], .inr (.inr (.inr (.inl none)))),
  .inl (17, [.inl 0, .inl 4294967295, .inr (.inr (.inl 19)), .inl 1, .inl 4294967295, .inr (.inr (.inr (.inl none)))]),
  .inl (17, [.inl 1, .inl 4294967295, .inr (.inr (.inl 19)), .inl 1, .inl 4294967295, .inr (.inr (.inr (.inl none)))]),
  .inl (17, [.inl 2, .inl 4294967295, .inr (.inr (.inl 19)), .inl 1, .inl 4294967295, .inr (.inr (.inr (.inl none)))]),
  .inl (17, [.inl 3, .inl 4294967295, .inr (.inr (.inl 19)), .inl 1, .inl 4294967295, .inr (.inr (.inr (.inl none)))]),
  .inl (17, [.inl 4, .inl 4294967295, .inr (.inr (.inl 19)), .inl 1, .inl 4294967295, .inr (.inr (.inr (.inl none)))]),
  .inl (17, [.inl 5, .inl 4294967295, .inr (.inr (.inl 19)), .inl 1, .inl 4294967295, .inr (.inr (.inr (.inl none)))]),
  .inl (17, [.inl 6, .inl 4294967295, .inr (.inr (.inl 19)), .inl 1, .inl 4294967295, .inr (.inr (.inr (.inl none)))]),
  .inl (17, [.inl 7, .inl 4294967295, .inr (.inr (.inl 19)), .inl 1, .inl 4294967295, .inr (.inr (.inr (.inl none)))]),
  .inl (17, [.inl 8, .inl 4294967295, .inr (.inr (.inl 19)), .inl 1, .inl 4294967295, .inr (.inr (.inr (.inl none)))]),
  .inl (17, [.inl 9, .inl 4294967295, .inr (.inr (.inl 19)), .inl 1, .inl 4294967295, .inr (.inr (.inr (.inl none)))]),
  .inl (17, [.inl 10, .inl 4294967295, .inr (.inr (.inl 19)), .inl 1, .inl 4294967295, .inr (.inr (.inr (.inl none)))]),
  .inl (17, [.inl 11, .inl 4294967295, .inr (.inr (.inl 19)), .inl 1, .inl 4294967295, .inr (.inr (.inr (.inl none)))]),
  .inl (17, [.inl 12, .inl 4294967295, .inr (.inr (.inl 19)), .inl 1, .inl 4294967295, .inr (.inr (.inr (.inl none)))]),
  .inl (17, [.inl 13, .inl 4294967295, .inr (.inr (.inl 19)), .inl 1, .inl 4294967295, .inr (.inr (.inr (.inl none)))]),
  .inl (17, [.inl 14, .inl 4294967295, .inr (.inr (.inl 19)), .inl 1, .inl 4294967295, .inr (.inr (.inr (.inl none)))]),
  .inl (17, [.inl 15, .inl 4294967295, .inr (.inr (.inl 19)), .inl 1, .inl 4294967295, .inr (.inr (.inr (.inl none)))]),
  .inl (17, [.inl 16, .inl 4294967295, .inr (.inr (.inl 19)), .inl 1, .inl 4294967295, .inr (.inr (.inr (.inl none)))]),
  .inl (17, [.inl 17, .inl 4294967295, .inr (.inr (.inl 19)), .inl 1, .inl 4294967295, .inr (.inr (.inr (.inl none)))]),
  .inl (17, [.inl 18, .inl 4294967295, .inr (.inr (.inl 19)), .inl 1, .inl 4294967295, .inr (.inr (.inr (.inl none)))]),
  .inl (17, [.inl 19, .inl 4294967295, .inr (.inr (.inl 19)), .inl 1, .inl 4294967295, .inr (.inr (.inr (.inl none)))]),
  .inr (2, 25, 1, [(0, .inr (.inr (.inr (.inl (some 18446744073709551614)))))], .inr (.inr (.inr (.inl (some 0))))),
  .inr (3, 26, 0, [], .inr (.inr (.inr (.inl none)))),
  .inl (17, [.inl 4294967295, .inl 0, .inr (.inr (.inl 53)), .inl 1, .inl 4294967295, .inr (.inr (.inr (.inl none)))]),
  .inr (4, 27, 10, [(0, .inr (.inr (.inl 99))), (1, .inr (.inr (.inr (.inl none))))], .inr (.inr (.inr (.inl none)))),
  .inr (3, 28, 0, [], .inr (.inr (.inr (.inl none)))),
  .inl (17, [.inl 4294967295, .inl 0, .inr (.inr (.inl 56)), .inl 1, .inl 4294967295, .inr (.inr (.inr (.inl none)))]),
  .inr (3, 29, 1, [(0, .inr (.inr (.inl 57)))], .inr (.inr (.inr (.inl none)))),
  .inl (17, [.inl 4294967295, .inl 1, .inr (.inr (.inl 58)), .inl 2, .inl 4294967295, .inr (.inr (.inr (.inl none)))]),
  .inr (3, 30, 1, [(0, .inr (.inr (.inl 59)))], .inr (.inr (.inr (.inl none)))),
  .inl (17, [.inl 4294967295, .inl 1, .inr (.inr (.inl 60)), .inl 3, .inl 4294967295, .inr (.inr (.inr (.inl none)))]),
  .inr (3, 31, 1, [(0, .inr (.inr (.inl 61)))], .inr (.inr (.inr (.inl none)))),
  .inl (17, [.inl 4294967295, .inl 1, .inr (.inr (.inl 62)), .inl 4, .inl 4294967295, .inr (.inr (.inr (.inl none)))]),
  .inr (3, 32, 1, [(0, .inr (.inr (.inl 63)))], .inr (.inr (.inr (.inl none)))),
  .inl (17, [.inl 4294967295, .inl 1, .inr (.inr (.inl 64)), .inl 5, .inl 4294967295, .inr (.inr (.inr (.inl none)))]),
  .inr (3, 33, 1, [(0, .inr (.inr (.inl 65)))], .inr (.inr (.inr (.inl none)))),
  .inl (17, [.inl 4294967295, .inl 1, .inr (.inr (.inl 66)), .inl 6, .inl 4294967295, .inr (.inr (.inr (.inl none)))]),
  .inr (3, 34, 1, [(0, .inr (.inr (.inl 67)))], .inr (.inr (.inr (.inl none)))),
  .inl (17, [.inl 4294967295, .inl 1, .inr (.inr (.inl 68)), .inl 7, .inl 4294967295, .inr (.inr (.inr (.inl none)))]),
  .inr (3, 35, 1, [(0, .inr (.inr (.inl 69)))], .inr (.inr (.inr (.inl none)))),
  .inl (17, [.inl 4294967295, .inl 1, .inr (.inr (.inl 70)), .inl 8, .inl 4294967295, .inr (.inr (.inr (.inl none)))]),
  .inr (3, 36, 1, [(0, .inr (.inr (.inl 71)))], .inr (.inr (.inr (.inl none)))),
  .inl (17, [.inl 4294967295, .inl 1, .inr (.inr (.inl 72)), .inl 9, .inl 4294967295, .inr (.inr (.inr (.inl none)))]),
  .inr (3, 37, 1, [(0, .inr (.inr (.inl 73)))], .inr (.inr (.inr (.inl none)))),
  .inl (17, [.inl 4294967295, .inl 1, .inr (.inr (.inl 74)), .inl 10, .inl 4294967295, .inr (.inr (.inr (.inl none)))]),
  .inr (3, 38, 1, [(0, .inr (.inr (.inl 75)))], .inr (.inr (.inr (.inl none)))),
  .inl (17, [.inl 4294967295, .inl 1, .inr (.inr (.inl 76)), .inl 11, .inl 4294967295, .inr (.inr (.inr (.inl none)))]),
  .inr (3, 39, 1, [(0, .inr (.inr (.inl 77)))], .inr (.inr (.inr (.inl none)))),
  .inl (17, [.inl 4294967295, .inl 1, .inr (.inr (.inl 78)), .inl 12, .inl 4294967295, .inr (.inr (.inr (.inl none)))]),
  .inr (3, 40, 1, [(0, .inr (.inr (.inl 79)))], .inr (.inr (.inr (.inl none)))),
  .inl (17, [.inl 4294967295, .inl 1, .inr (.inr (.inl 80)), .inl 13, .inl 4294967295, .inr (.inr (.inr (.inl none)))]),
  .inr (3, 41, 1, [(0, .inr (.inr (.inl 81)))], .inr (.inr (.inr (.inl none)))),
  .inl (17, [.inl 4294967295, .inl 1, .inr (.inr (.inl 82)), .inl 14, .inl 4294967295, .inr (.inr (.inr (.inl none)))]),
  .inr (3, 42, 1, [(0, .inr (.inr (.inl 83)))], .inr (.inr (.inr (.inl none)))),
  .inl (17, [.inl 4294967295, .inl 1, .inr (.inr (.inl 84)), .inl 15, .inl 4294967295, .inr (.inr (.inr (.inl none)))]),
  .inr (3, 43, 1, [(0, .inr (.inr (.inl 85)))], .inr (.inr (.inr (.inl none)))),
  .inl (17, [.inl 4294967295, .inl 1, .inr (.inr (.inl 86)), .inl 16, .inl 4294967295, .inr (.inr (.inr (.inl none)))]),
  .inr (3, 44, 1, [(0, .inr (.inr (.inl 87)))], .inr (.inr (.inr (.inl none)))),
  .inl (17, [.inl 4294967295, .inl 1, .inr (.inr (.inl 88)), .inl 17, .inl 4294967295, .inr (.inr (.inr (.inl none)))]),
  .inr (3, 45, 1, [(0, .inr (.inr (.inl 89)))], .inr (.inr (.inr (.inl none)))),
  .inl (17, [.inl 4294967295, .inl 1, .inr (.inr (.inl 90)), .inl 18, .inl 4294967295, .inr (.inr (.inr (.inl none)))]),
  .inr (3, 46, 1, [(0, .inr (.inr (.inl 91)))], .inr (.inr (.inr (.inl none)))),
  .inl (17, [.inl 4294967295, .inl 1, .inr (.inr (.inl 92)), .inl 19, .inl 4294967295, .inr (.inr (.inr (.inl none)))]),
  .inr (3, 47, 1, [(0, .inr (.inr (.inl 93)))], .inr (.inr (.inr (.inl none)))),
  .inl (17, [.inl 4294967295, .inl 1, .inr (.inr (.inl 94)), .inl 20, .inl 4294967295, .inr (.inr (.inr (.inl none)))]),
  .inl (14, [.inr (.inr (.inl 54)), .inr (.inr (.inl 95)), .inr (.inr (.inr (.inl none))), .inr (.inr (.inr (.inl none))), .inr (.inr (.inr (.inl none))), .inr (.inr (.inr (.inl none)))]),
  .inr (4, 48, 10, [(0, .inr (.inr (.inl 96)))], .inr (.inr (.inr (.inl none)))),
  .inr (3, 49, 0, [], .inr (.inr (.inr (.inl none)))),
  .inl (17, [.inl 4294967295, .inl 0, .inr (.inr (.inl 98)), .inl 1, .inl 4294967295, .inr (.inr (.inr (.inl none)))])]
def NWn (n : Nat) : List AC := (match n with
  | 0 => NW
  | 1 => NW1
  | _ => NW2) ++ [.inl (16, [.inl n])]
def nK : Nat := 50
def avT (t : Nat) : List AV := [rf 0, rf t, rf 100, .inl 0]
def sel9 : List Nat := List.range 101
def st9 : List Nat := List.range nK
/-- a stop where the locals and the stack are these; else the step itself -/
def subB : Als → Als → Bool
  | [], _ => true
  | q :: l, als => decide (llk als q.1 = some q.2) && subB l als
theorem subB_in {a b : Als} (h : subB a b = true) : ∀ q ∈ a, llk b q.1 = some q.2 := by
  induction a with
  | nil => intro q hq; cases hq
  | cons x l ih =>
    have h1 := and_cases h
    intro q hq
    rcases List.mem_cons.mp hq with rfl | hq
    · exact of_decide_eq_true h1.1
    · exact ih h1.2 q hq
def aStp (STP : Als × List AV) (F : Step) : Step := fun ev rc dep mi pc als ast ah nt =>
  match subB STP.1 als && decide (ast = STP.2) with
  | true => some (9, pc, .inl 0, ah, nt, 0, 0)
  | false => F ev rc dep mi pc als ast ah nt
section STP
variable {TB : List MT} {WB AD : List Jvm.Cond} {SR : List (String × Nat × String)} {FW : FWT} {STP : Als × List AV} {l : Launch} {g : GV} {D : va_G} {sl : Nat} {ev : EV}
theorem stp_ok {mt : MT} {mi pc : Nat} {F : Step} (hF : SOK TB WB AD SR FW STP l g D sl ev mt mi pc F) : SOK TB WB AD SR FW STP l g D sl ev mt mi pc (aStp STP F) := by
  intro rc IH dep als ast ah nt f h
  unfold aStp at h
  split at h
  · rename_i h1
    have h := sj h
    subst h
    have h2 := and_cases h1
    have e2 := of_decide_eq_true h2.2
    subst e2
    intro p e R s m args below meth c H locs cells slots Q A ρ tys ls st C hR hnt hL hS hu hv k
    exact k ρ tys H locs ls st cells slots Ext.rf hR hnt ⟨LR_size hL, Or.inr ⟨rfl, LR_sub (subB_in h2.1) hL, hS⟩⟩ (Or.inr (Or.inl rfl)) (Nat.le_add_right _ _) (Nat.le_add_right _ _)
  · exact hF rc IH dep als ast ah nt f h
end STP
theorem sok_TF {STP : Als × List AV} {l : Launch} {g : GV} {D : va_G} {sl : Nat} {ev : EV} (hev : ev.1 ≠ [] → ev.2.2 = sl) (hsl : sl < 2 ^ 31) (hB : Bd g ev.1) (hM : ev.2.1 < 64 → ∀ x, g.1[0]? = some x → x &&& 63 = nI ev.2.1) : ∀ (mi : Nat) (t : List (Nat × Step)) (mt : MT), TF[mi]? = some t → TB[mi]? = some mt → ∀ q ∈ t, SOK TB WB AD SR FW STP l g D sl ev mt mi q.1 q.2 := by
  intro mi t mt ht hmt q hq
  obtain ⟨t', ht', hr⟩ := F2_get RT_ok hmt
  cases ht.symm.trans ht'
  rw [hr.1] at hq
  obtain ⟨q0, hq0, rfl⟩ := List.mem_map.mp hq
  exact step_ok WB_good AD_ok FW_ok AC_ok AO_ok AL_ok TL_ok NP_ok MO_ok MH_ok hev hsl hB hM hmt (hr.2 q0 hq0)
/-- the tables with one step ahead of a method's own -/
def tfs (k pc : Nat) (F : Step) : List (List (Nat × Step)) := match TF[k]? with
  | some t => TF.set k ((pc, F) :: t)
  | none => TF
theorem sok_tfs {STP : Als × List AV} {l : Launch} {g : GV} {D : va_G} {sl : Nat} {ev : EV} (hev : ev.1 ≠ [] → ev.2.2 = sl) (hsl : sl < 2 ^ 31) (hB : Bd g ev.1) (hM : ev.2.1 < 64 → ∀ x, g.1[0]? = some x → x &&& 63 = nI ev.2.1) {k pc : Nat} {F : Step} (hF : ∀ mt, TB[k]? = some mt → SOK TB WB AD SR FW STP l g D sl ev mt k pc F) : ∀ (mi : Nat) (t : List (Nat × Step)) (mt : MT), (tfs k pc F)[mi]? = some t → TB[mi]? = some mt → ∀ q ∈ t, SOK TB WB AD SR FW STP l g D sl ev mt mi q.1 q.2 := by
  intro mi t mt ht hmt
  unfold tfs at ht
  split at ht
  · rename_i t0 h0
    rw [List.getElem?_set] at ht
    split at ht
    · rename_i e
      subst e
      split at ht
      · have ht := Option.some.inj ht
        subst ht
        intro q hq
        rcases List.mem_cons.mp hq with rfl | hq
        · exact hF mt hmt
        · exact sok_TF hev hsl hB hM _ t0 mt h0 hmt q hq
      · cases ht
    · exact sok_TF hev hsl hB hM mi t mt ht hmt
  · exact sok_TF hev hsl hB hM mi t mt ht hmt
/-- the step of a method at a pc -/
def stpAt (k pc : Nat) : Step := match TF[k]? with
  | some t => match lkp t pc with
    | some F => F
    | none => aNo
  | none => aNo
theorem stpAt_ok {STP : Als × List AV} {l : Launch} {g : GV} {D : va_G} {sl : Nat} {ev : EV} (hev : ev.1 ≠ [] → ev.2.2 = sl) (hsl : sl < 2 ^ 31) (hB : Bd g ev.1) (hM : ev.2.1 < 64 → ∀ x, g.1[0]? = some x → x &&& 63 = nI ev.2.1) {k pc : Nat} (mt : MT) (hmt : TB[k]? = some mt) : SOK TB WB AD SR FW STP l g D sl ev mt k pc (stpAt k pc) := by
  unfold stpAt
  split
  · rename_i t ht
    split
    · rename_i F hF
      exact sok_TF hev hsl hB hM k t mt ht hmt _ (lkp_mem hF)
    · intro rc IH dep als ast ah nt f h
      cases h
  · intro rc IH dep als ast ah nt f h
    cases h
theorem sok_stp {STP : Als × List AV} {l : Launch} {g : GV} {D : va_G} {sl : Nat} (hsl : sl < 2 ^ 31) (k pc : Nat) : ∀ (mi : Nat) (t : List (Nat × Step)) (mt : MT), (tfs k pc (aStp STP (stpAt k pc)))[mi]? = some t → TB[mi]? = some mt → ∀ q ∈ t, SOK TB WB AD SR FW STP l g D sl ([], 64, 0) mt mi q.1 q.2 :=
  sok_tfs (ev := ([], 64, 0)) (fun h => absurd rfl h) hsl (fun k q h => by cases h) (fun h => absurd h (by decide)) (fun mt hmt => stp_ok (stpAt_ok (fun h => absurd rfl h) hsl (fun k q h => by cases h) (fun h => absurd h (by decide)) mt hmt))
/-- what a piece comes to: the stop, the world with a part of it told as AH, the call's arguments as avs -/
def ckP (o : Option Fin9) (pcs u v np y : Nat) (ast : List AV) (AH : List AC) (avs : List AV) : Bool := match o with
  | some (9, pc, .inl 0, ah', nt', u', v') => Nat.beq pc pcs && (Nat.ble u' u && (Nat.ble v' v && (isObj ah' y (ast.take np).reverse && (wS (sfl sel9) (sfl st9) ah' sel9 AH && (st9.all (fun t => Nat.blt t nt') && lS (sfl sel9) (ast.take np).reverse avs)))))
  | _ => false
theorem ckP_in {o : Option Fin9} {pcs u v np y : Nat} {ast : List AV} {AH : List AC} {avs : List AV} (h : ckP o pcs u v np y ast AH avs = true) : ∃ ah' nt' u' v', o = some (9, pcs, .inl 0, ah', nt', u', v') ∧ u' ≤ u ∧ v' ≤ v ∧ isObj ah' y (ast.take np).reverse = true ∧ wS (sfl sel9) (sfl st9) ah' sel9 AH = true ∧ st9.all (fun t => Nat.blt t nt') = true ∧ lS (sfl sel9) (ast.take np).reverse avs = true := by
  unfold ckP at h
  split at h
  · have h1 := and_cases h
    have h2 := and_cases h1.2
    have h3 := and_cases h2.2
    have h4 := and_cases h3.2
    have h5 := and_cases h4.2
    have h6 := and_cases h5.2
    have e := Nat.eq_of_beq_eq_true h1.1
    subst e
    exact ⟨_, _, _, _, rfl, Nat.le_of_ble_eq_true h2.1, Nat.le_of_ble_eq_true h3.1, h4.1, h5.1, h6.1, h6.2⟩
  · cases h
theorem sel9_ris : risF 0 sel9 = true := by decide +kernel
theorem st9_len : st9.length = nK := by decide +kernel
def stpRd : Als × List AV := ([], [.inl 0, rf 100, rf 99, rf 0])
def stpR (t : Nat) : Als × List AV := ([(4, rf t)], [.inl 0, rf 100, rf t, rf 0])
def stpB (t' : Nat) : Als × List AV := ([], [.inl 0, rf 100, rf t', rf 0])
def stpF (t : Nat) : Als × List AV := ([(4, rf t)], [rf t])
def ckRd : Bool := ckP (run (tfs 95 45 (aStp stpRd (stpAt 95 45))) ([], 64, 0) 2000 40 95 0 (aargs 0 [rf 0]) [] NM nK) 45 60 600 4 18 stpRd.2 (NWn 0) (avT 99)
/-- from reduced(t) with n steps to beneath(t'), n' steps -/
def ckR (d n t n' t' : Nat) : Bool := ckP (run (tfs 10 35 (aStp (stpR t') (stpAt 10 35))) ([], 64, 0) 4000 d 10 0 (aargs 0 (avT t)) [] (NWn n) nK) 35 60 600 4 18 (stpR t').2 (NWn n') (avT t')
def ckB (n t t' : Nat) : Bool := ckP (run (tfs 12 29 (aStp (stpB t') (stpAt 12 29))) ([], 64, 0) 100 0 12 0 (aargs 0 (avT t)) [] (NWn n) nK) 29 60 600 4 18 (stpB t').2 (NWn n) (avT t')
def ckF (n t : Nat) : Bool := ckP (run (tfs 10 5 (aStp (stpF t) (stpAt 10 5))) ([], 64, 0) 20 0 10 0 (aargs 0 (avT t)) [] (NWn n) nK) 5 60 600 1 17 (stpF t).2 (NWn n) [rf t]
def tN (i : Nat) : Nat := 95 - 2 * i
