def TR_16 : List (Nat × Nat) := [(0, 0)]
set_option maxRecDepth 100000 in
theorem tr_16 : chk 16 200 TR_16 FULL6 = some [] := by decide +kernel
def TR_17 : List (Nat × Nat) := [(0, 0)]
set_option maxRecDepth 100000 in
theorem tr_17 : chk 17 200 TR_17 FULL6 = some [] := by decide +kernel
def TR_18 : List (Nat × Nat) := [(0, 0)]
set_option maxRecDepth 100000 in
theorem tr_18 : chk 18 200 TR_18 FULL6 = some [] := by decide +kernel
def TR_19 : List (Nat × Nat) := [(0, 0)]
set_option maxRecDepth 100000 in
theorem tr_19 : chk 19 200 TR_19 FULL6 = some [] := by decide +kernel
def TR_20 : List (Nat × Nat) := [(0, 0)]
set_option maxRecDepth 100000 in
theorem tr_20 : chk 20 200 TR_20 FULL6 = some [] := by decide +kernel
def TR_21 : List (Nat × Nat) := [(0, 0)]
set_option maxRecDepth 100000 in
theorem tr_21 : chk 21 200 TR_21 FULL6 = some [] := by decide +kernel
def TR_22 : List (Nat × Nat) := [(1, 2147483647), (0, 0), (0, 0)]
set_option maxRecDepth 100000 in
theorem tr_22 : chk 22 200 TR_22 FULL6 = some [] := by decide +kernel
def TR_23 : List (Nat × Nat) := [(1, 2147483648), (0, 0), (0, 0)]
set_option maxRecDepth 100000 in
theorem tr_23 : chk 23 200 TR_23 FULL6 = some [] := by decide +kernel
def TR_24 : List (Nat × Nat) := [(0, 0)]
set_option maxRecDepth 100000 in
theorem tr_24 : chk 24 200 TR_24 FULL6 = some [] := by decide +kernel
def TR_25 : List (Nat × Nat) := [(1, 2147483647), (0, 0), (1, 2147483650), (0, 0), (0, 0)]
set_option maxRecDepth 100000 in
theorem tr_25 : chk 25 200 TR_25 FULL6 = some [] := by decide +kernel
def TR_26 : List (Nat × Nat) := [(1, 2147483647), (0, 0), (0, 0)]
set_option maxRecDepth 100000 in
theorem tr_26 : chk 26 200 TR_26 FULL6 = some [] := by decide +kernel
def TR_27 : List (Nat × Nat) := [(0, 0)]
set_option maxRecDepth 100000 in
theorem tr_27 : chk 27 200 TR_27 FULL6 = some [] := by decide +kernel
def TR_28 : List (Nat × Nat) := [(0, 0)]
set_option maxRecDepth 100000 in
theorem tr_28 : chk 28 200 TR_28 FULL6 = some [] := by decide +kernel
def TR_29 : List (Nat × Nat) := [(1, 2147483647), (0, 0), (1, 2147483648), (0, 0), (0, 0)]
set_option maxRecDepth 100000 in
theorem tr_29 : chk 29 200 TR_29 FULL6 = some [] := by decide +kernel
def TR_30 : List (Nat × Nat) := [(0, 0)]
set_option maxRecDepth 100000 in
theorem tr_30 : chk 30 200 TR_30 FULL6 = some [] := by decide +kernel
def TR_31 : List (Nat × Nat) := [(0, 0)]
set_option maxRecDepth 100000 in
theorem tr_31 : chk 31 200 TR_31 FULL6 = some [] := by decide +kernel
def TR_32 : List (Nat × Nat) := [(0, 0)]
set_option maxRecDepth 100000 in
theorem tr_32 : chk 32 200 TR_32 FULL6 = some [] := by decide +kernel
def TR_33 : List (Nat × Nat) := [(1, 2147483647), (0, 0), (0, 0)]
set_option maxRecDepth 100000 in
theorem tr_33 : chk 33 200 TR_33 FULL6 = some [] := by decide +kernel
def TR_34 : List (Nat × Nat) := [(1, 2147483647), (0, 0), (0, 0)]
set_option maxRecDepth 100000 in
theorem tr_34 : chk 34 200 TR_34 FULL6 = some [] := by decide +kernel
def TR_35 : List (Nat × Nat) := [(1, 2147483647), (0, 0), (0, 0)]
set_option maxRecDepth 100000 in
theorem tr_35 : chk 35 200 TR_35 FULL6 = some [] := by decide +kernel
def TR_36 : List (Nat × Nat) := [(0, 0)]
set_option maxRecDepth 100000 in
theorem tr_36 : chk 36 200 TR_36 FULL6 = some [] := by decide +kernel
def TR_37 : List (Nat × Nat) := [(1, 2147483647), (0, 0), (0, 0)]
set_option maxRecDepth 100000 in
theorem tr_37 : chk 37 200 TR_37 FULL6 = some [] := by decide +kernel
def TR_38 : List (Nat × Nat) := [(1, 2147483647), (0, 0), (0, 0)]
set_option maxRecDepth 100000 in
theorem tr_38 : chk 38 200 TR_38 FULL6 = some [] := by decide +kernel
def TR_39 : List (Nat × Nat) := [(0, 0)]
set_option maxRecDepth 100000 in
theorem tr_39 : chk 39 200 TR_39 FULL6 = some [] := by decide +kernel
def TR_40 : List (Nat × Nat) := [(0, 0)]
set_option maxRecDepth 100000 in
theorem tr_40 : chk 40 200 TR_40 FULL6 = some [] := by decide +kernel
def TR_41 : List (Nat × Nat) := [(0, 0)]
set_option maxRecDepth 100000 in
theorem tr_41 : chk 41 200 TR_41 FULL6 = some [] := by decide +kernel
def TR_42 : List (Nat × Nat) := [(0, 0)]
set_option maxRecDepth 100000 in
theorem tr_42 : chk 42 200 TR_42 FULL6 = some [] := by decide +kernel
def TR_43 : List (Nat × Nat) := [(0, 0)]
set_option maxRecDepth 100000 in
theorem tr_43 : chk 43 200 TR_43 FULL6 = some [] := by decide +kernel
def TR_44 : List (Nat × Nat) := [(0, 0)]
set_option maxRecDepth 100000 in
theorem tr_44 : chk 44 200 TR_44 FULL6 = some [] := by decide +kernel
def TR_45 : List (Nat × Nat) := [(0, 0)]
set_option maxRecDepth 100000 in
theorem tr_45 : chk 45 200 TR_45 FULL6 = some [] := by decide +kernel
def TR_46 : List (Nat × Nat) := [(0, 0)]
set_option maxRecDepth 100000 in
theorem tr_46 : chk 46 200 TR_46 FULL6 = some [] := by decide +kernel
def TR_47 : List (Nat × Nat) := [(0, 0)]
set_option maxRecDepth 100000 in
theorem tr_47 : chk 47 200 TR_47 FULL6 = some [] := by decide +kernel
def TR_48 : List (Nat × Nat) := [(0, 0)]
set_option maxRecDepth 100000 in
theorem tr_48 : chk 48 200 TR_48 FULL6 = some [] := by decide +kernel
def TR_49 : List (Nat × Nat) := [(0, 0)]
set_option maxRecDepth 100000 in
theorem tr_49 : chk 49 200 TR_49 FULL6 = some [] := by decide +kernel
def TR_50 : List (Nat × Nat) := [(0, 0)]
set_option maxRecDepth 100000 in
theorem tr_50 : chk 50 200 TR_50 FULL6 = some [] := by decide +kernel
def TR_51 : List (Nat × Nat) := [(0, 0)]
set_option maxRecDepth 100000 in
theorem tr_51 : chk 51 200 TR_51 FULL6 = some [] := by decide +kernel
def TR_52 : List (Nat × Nat) := [(0, 0)]
set_option maxRecDepth 100000 in
theorem tr_52 : chk 52 200 TR_52 FULL6 = some [] := by decide +kernel
def TR_53 : List (Nat × Nat) := [(0, 0)]
set_option maxRecDepth 100000 in
theorem tr_53 : chk 53 200 TR_53 FULL6 = some [] := by decide +kernel
