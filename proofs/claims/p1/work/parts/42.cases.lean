def TR_4 : List (Nat × Nat) := [(1, 2147483647), (0, 0), (0, 0)]
set_option maxRecDepth 100000 in
theorem tr_4 : chk 4 200 TR_4 FULL6 = some [] := by decide +kernel
def TR_5 : List (Nat × Nat) := [(1, 2147483647), (0, 0), (1, 2147483648), (0, 0), (1, 2147483649), (0, 0), (1, 2147483650), (0, 0), (1, 2147483651), (0, 0), (1, 2147483652), (0, 0), (1, 2147483653), (0, 0), (1, 2147483654), (0, 0), (1, 2147483655), (0, 0), (1, 2147483656), (0, 0), (1, 2147483657), (0, 0), (0, 0)]
set_option maxRecDepth 100000 in
theorem tr_5 : chk 5 200 TR_5 FULL6 = some [] := by decide +kernel
def TR_6 : List (Nat × Nat) := [(1, 2147483647), (0, 0), (0, 0)]
set_option maxRecDepth 100000 in
theorem tr_6 : chk 6 200 TR_6 FULL6 = some [] := by decide +kernel
def TR_7 : List (Nat × Nat) := [(1, 2147483647), (0, 0), (1, 2147483667), (0, 0), (0, 0)]
set_option maxRecDepth 100000 in
theorem tr_7 : chk 7 200 TR_7 FULL6 = some [] := by decide +kernel
def TR_8 : List (Nat × Nat) := [(1, 2147483647), (0, 0), (1, 2147483648), (0, 0), (1, 2147483649), (0, 0), (1, 2147483650), (0, 0), (1, 2147483651), (0, 0), (1, 2147483652), (0, 0), (1, 2147483653), (0, 0), (1, 2147483654), (0, 0), (1, 2147483655), (0, 0), (1, 2147483656), (0, 0), (1, 2147483657), (0, 0), (1, 2147483658), (0, 0), (1, 2147483659), (0, 0), (1, 2147483660), (0, 0), (1, 2147483661), (0, 0), (1, 2147483662), (0, 0), (1, 2147483663), (0, 0), (1, 2147483664), (0, 0), (1, 2147483665), (0, 0), (1, 2147483666), (0, 0), (1, 2147483667), (0, 0), (0, 0)]
set_option maxRecDepth 100000 in
theorem tr_8 : chk 8 200 TR_8 FULL6 = some [] := by decide +kernel
def TR_9 : List (Nat × Nat) := [(0, 0)]
set_option maxRecDepth 100000 in
theorem tr_9 : chk 9 200 TR_9 FULL6 = some [] := by decide +kernel
def TR_10 : List (Nat × Nat) := [(0, 0)]
set_option maxRecDepth 100000 in
theorem tr_10 : chk 10 200 TR_10 FULL6 = some [] := by decide +kernel
def TR_11 : List (Nat × Nat) := [(0, 0)]
set_option maxRecDepth 100000 in
theorem tr_11 : chk 11 200 TR_11 FULL6 = some [] := by decide +kernel
def TR_12 : List (Nat × Nat) := [(0, 0)]
set_option maxRecDepth 100000 in
theorem tr_12 : chk 12 200 TR_12 FULL6 = some [] := by decide +kernel
def TR_13 : List (Nat × Nat) := [(0, 0)]
set_option maxRecDepth 100000 in
theorem tr_13 : chk 13 200 TR_13 FULL6 = some [] := by decide +kernel
def TR_14 : List (Nat × Nat) := [(0, 0)]
set_option maxRecDepth 100000 in
theorem tr_14 : chk 14 200 TR_14 FULL6 = some [] := by decide +kernel
def TR_15 : List (Nat × Nat) := [(1, 2147483647), (2, 2147483647), (0, 0), (2, 2147483648), (0, 0), (0, 0), (1, 2147483648), (2, 2147483647), (0, 0), (2, 2147483648), (0, 0), (0, 0), (2, 2147483647), (0, 0), (2, 2147483648), (0, 0), (0, 0)]
set_option maxRecDepth 100000 in
theorem tr_15 : chk 15 200 TR_15 FULL6 = some [] := by decide +kernel
