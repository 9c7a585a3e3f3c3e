def TR_54 : List (Nat × Nat) := [(0, 0)]
set_option maxRecDepth 100000 in
theorem tr_54 : chk 54 200 TR_54 FULL6 = some [] := by decide +kernel
def TR_55 : List (Nat × Nat) := [(0, 0)]
set_option maxRecDepth 100000 in
theorem tr_55 : chk 55 200 TR_55 FULL6 = some [] := by decide +kernel
def TR_56 : List (Nat × Nat) := [(0, 0)]
set_option maxRecDepth 100000 in
theorem tr_56 : chk 56 200 TR_56 FULL6 = some [] := by decide +kernel
def TR_57 : List (Nat × Nat) := [(0, 0)]
set_option maxRecDepth 100000 in
theorem tr_57 : chk 57 200 TR_57 FULL6 = some [] := by decide +kernel
def TR_58 : List (Nat × Nat) := [(0, 0)]
set_option maxRecDepth 100000 in
theorem tr_58 : chk 58 200 TR_58 FULL6 = some [] := by decide +kernel
def TR_59 : List (Nat × Nat) := [(0, 0)]
set_option maxRecDepth 100000 in
theorem tr_59 : chk 59 200 TR_59 FULL6 = some [] := by decide +kernel
def TR_60 : List (Nat × Nat) := [(0, 0)]
set_option maxRecDepth 100000 in
theorem tr_60 : chk 60 200 TR_60 FULL6 = some [] := by decide +kernel
def TR_61 : List (Nat × Nat) := [(0, 0)]
set_option maxRecDepth 100000 in
theorem tr_61 : chk 61 200 TR_61 FULL6 = some [] := by decide +kernel
def TR_62 : List (Nat × Nat) := [(0, 0)]
set_option maxRecDepth 100000 in
theorem tr_62 : chk 62 200 TR_62 FULL6 = some [] := by decide +kernel
def TR_63 : List (Nat × Nat) := [(0, 0)]
set_option maxRecDepth 100000 in
theorem tr_63 : chk 63 200 TR_63 FULL6 = some [] := by decide +kernel
