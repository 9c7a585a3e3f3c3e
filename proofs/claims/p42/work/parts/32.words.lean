def adk (w : Jvm.Cond) : Bool := match w with
  | .declares _ => true
  | .castable _ _ => true
  | _ => false
def WB : List Jvm.Cond := lw_tbl.filter goodWord
def AD : List Jvm.Cond := lw_tbl.filter adk
theorem wb_of {w : Jvm.Cond} (h : w ∈ lw_tbl) (hg : goodWord w = true) : w ∈ WB := List.mem_filter.mpr ⟨h, hg⟩
theorem ad_of {w : Jvm.Cond} (h : w ∈ lw_tbl) (hg : adk w = true) : w ∈ AD := List.mem_filter.mpr ⟨h, hg⟩
theorem WB_good : ∀ w ∈ WB, goodWord w = true := fun w h => (List.mem_filter.mp h).2
theorem AD_ok : ADok AD := fun w h => by
  have h2 := (List.mem_filter.mp h).2
  unfold adk at h2
  split at h2
  · exact Or.inl ⟨_, rfl⟩
  · exact Or.inr ⟨_, _, rfl⟩
  · cases h2
theorem li_0 {w : Jvm.Cond} (j : Nat) (h : (k2_sels lw_privs)[j]? = some w) : w ∈ lw_tbl := List.mem_append_left _ (List.mem_of_getElem? h)
theorem wb_0 {w : Jvm.Cond} (j : Nat) (h : (k2_sels lw_privs)[j]? = some w) (hg : goodWord w = true) : w ∈ WB := wb_of (li_0 j h) hg
theorem li_1 {w : Jvm.Cond} (j : Nat) (h : tables_1_1[j]? = some w) : w ∈ lw_tbl := by
  have h := List.mem_of_getElem? h
  exact List.mem_append_right _ (show w ∈ tables_1_1 ++ (tables_1_2 ++ (tables_1_3 ++ (tables_1_4 ++ tables_1_5))) from List.mem_append_left _ h)
theorem wb_1 {w : Jvm.Cond} (j : Nat) (h : tables_1_1[j]? = some w) (hg : goodWord w = true) : w ∈ WB := wb_of (li_1 j h) hg
theorem li_2 {w : Jvm.Cond} (j : Nat) (h : tables_1_2[j]? = some w) : w ∈ lw_tbl := by
  have h := List.mem_of_getElem? h
  exact List.mem_append_right _ (show w ∈ tables_1_1 ++ (tables_1_2 ++ (tables_1_3 ++ (tables_1_4 ++ tables_1_5))) from List.mem_append_right _ (List.mem_append_left _ h))
theorem wb_2 {w : Jvm.Cond} (j : Nat) (h : tables_1_2[j]? = some w) (hg : goodWord w = true) : w ∈ WB := wb_of (li_2 j h) hg
theorem li_3 {w : Jvm.Cond} (j : Nat) (h : tables_1_3[j]? = some w) : w ∈ lw_tbl := by
  have h := List.mem_of_getElem? h
  exact List.mem_append_right _ (show w ∈ tables_1_1 ++ (tables_1_2 ++ (tables_1_3 ++ (tables_1_4 ++ tables_1_5))) from List.mem_append_right _ (List.mem_append_right _ (List.mem_append_left _ h)))
theorem wb_3 {w : Jvm.Cond} (j : Nat) (h : tables_1_3[j]? = some w) (hg : goodWord w = true) : w ∈ WB := wb_of (li_3 j h) hg
theorem li_4 {w : Jvm.Cond} (j : Nat) (h : tables_1_4[j]? = some w) : w ∈ lw_tbl := by
  have h := List.mem_of_getElem? h
  exact List.mem_append_right _ (show w ∈ tables_1_1 ++ (tables_1_2 ++ (tables_1_3 ++ (tables_1_4 ++ tables_1_5))) from List.mem_append_right _ (List.mem_append_right _ (List.mem_append_right _ (List.mem_append_left _ h))))
theorem wb_4 {w : Jvm.Cond} (j : Nat) (h : tables_1_4[j]? = some w) (hg : goodWord w = true) : w ∈ WB := wb_of (li_4 j h) hg
theorem li_5 {w : Jvm.Cond} (j : Nat) (h : tables_1_5[j]? = some w) : w ∈ lw_tbl := by
  have h := List.mem_of_getElem? h
  exact List.mem_append_right _ (show w ∈ tables_1_1 ++ (tables_1_2 ++ (tables_1_3 ++ (tables_1_4 ++ tables_1_5))) from List.mem_append_right _ (List.mem_append_right _ (List.mem_append_right _ (List.mem_append_right _ (h)))))
theorem wb_5 {w : Jvm.Cond} (j : Nat) (h : tables_1_5[j]? = some w) (hg : goodWord w = true) : w ∈ WB := wb_of (li_5 j h) hg
def FW : List (String × Nat × MethodName × String) := [(RX2, 41, yX10_operatorIn, "RuleForge"), (RX3, 79, yX8_sortAt, "RuleForge"), (RX3, 130, yX8_rebuild, "RuleForge"), (RX3, 166, yX10_operatorIn, "RuleForge"), (RX6, 73, yX10_operatorIn, "RuleForge"), (RX6, 122, yX8_rebuild, "RuleForge"), (RX8, 84, yX10_operatorIn, "RuleForge"), (RX10, 207, yX8_sortAt, "RuleForge"), (RX10, 277, yX6_normalForm, "RuleForge")]
theorem FW_ok : FWok FW := trivial
def SR : List (String × Nat × String) := [(RX10, 201, "there is no top"), (RX10, 213, "there is no such place")]
set_option maxRecDepth 100000 in
theorem uw_0 : ∀ w ∈ u_ws RX0 TX0 14, w ∈ WB := List.forall_mem_cons.mpr ⟨wb_of (li_2 213 rfl) rfl, List.forall_mem_cons.mpr ⟨wb_of (li_2 215 rfl) rfl, List.forall_mem_cons.mpr ⟨wb_of (li_2 217 rfl) rfl, List.forall_mem_cons.mpr ⟨wb_of (li_2 219 rfl) rfl, List.forall_mem_cons.mpr ⟨wb_of (li_2 221 rfl) rfl, List.forall_mem_cons.mpr ⟨wb_of (li_2 223 rfl) rfl, List.forall_mem_cons.mpr ⟨wb_of (li_2 225 rfl) rfl, List.forall_mem_cons.mpr ⟨wb_of (li_2 227 rfl) rfl, List.forall_mem_cons.mpr ⟨wb_of (li_2 229 rfl) rfl, List.forall_mem_cons.mpr ⟨wb_of (li_2 231 rfl) rfl, List.forall_mem_cons.mpr ⟨wb_of (li_2 233 rfl) rfl, List.forall_mem_cons.mpr ⟨wb_of (li_2 235 rfl) rfl, List.forall_mem_cons.mpr ⟨wb_of (li_2 237 rfl) rfl, List.forall_mem_cons.mpr ⟨wb_of (li_2 239 rfl) rfl, fun _ h => absurd h List.not_mem_nil⟩⟩⟩⟩⟩⟩⟩⟩⟩⟩⟩⟩⟩⟩
set_option maxRecDepth 100000 in
theorem uw_1 : ∀ w ∈ u_ws RX1 TX1 9, w ∈ WB := List.forall_mem_cons.mpr ⟨wb_of (li_2 149 rfl) rfl, List.forall_mem_cons.mpr ⟨wb_of (li_2 151 rfl) rfl, List.forall_mem_cons.mpr ⟨wb_of (li_2 153 rfl) rfl, List.forall_mem_cons.mpr ⟨wb_of (li_2 155 rfl) rfl, List.forall_mem_cons.mpr ⟨wb_of (li_2 157 rfl) rfl, List.forall_mem_cons.mpr ⟨wb_of (li_2 159 rfl) rfl, List.forall_mem_cons.mpr ⟨wb_of (li_2 161 rfl) rfl, List.forall_mem_cons.mpr ⟨wb_of (li_2 163 rfl) rfl, List.forall_mem_cons.mpr ⟨wb_of (li_2 165 rfl) rfl, fun _ h => absurd h List.not_mem_nil⟩⟩⟩⟩⟩⟩⟩⟩⟩
set_option maxRecDepth 100000 in
theorem uw_2 : ∀ w ∈ u_ws RX2 TX2 5, w ∈ WB := List.forall_mem_cons.mpr ⟨wb_of (li_1 159 rfl) rfl, List.forall_mem_cons.mpr ⟨wb_of (li_1 161 rfl) rfl, List.forall_mem_cons.mpr ⟨wb_of (li_1 163 rfl) rfl, List.forall_mem_cons.mpr ⟨wb_of (li_1 165 rfl) rfl, List.forall_mem_cons.mpr ⟨wb_of (li_1 167 rfl) rfl, fun _ h => absurd h List.not_mem_nil⟩⟩⟩⟩⟩
set_option maxRecDepth 100000 in
theorem uw_3 : ∀ w ∈ u_ws RX3 TX3 16, w ∈ WB := List.forall_mem_cons.mpr ⟨wb_of (li_2 19 rfl) rfl, List.forall_mem_cons.mpr ⟨wb_of (li_2 21 rfl) rfl, List.forall_mem_cons.mpr ⟨wb_of (li_2 23 rfl) rfl, List.forall_mem_cons.mpr ⟨wb_of (li_2 25 rfl) rfl, List.forall_mem_cons.mpr ⟨wb_of (li_2 27 rfl) rfl, List.forall_mem_cons.mpr ⟨wb_of (li_2 29 rfl) rfl, List.forall_mem_cons.mpr ⟨wb_of (li_2 31 rfl) rfl, List.forall_mem_cons.mpr ⟨wb_of (li_2 33 rfl) rfl, List.forall_mem_cons.mpr ⟨wb_of (li_2 35 rfl) rfl, List.forall_mem_cons.mpr ⟨wb_of (li_2 37 rfl) rfl, List.forall_mem_cons.mpr ⟨wb_of (li_2 39 rfl) rfl, List.forall_mem_cons.mpr ⟨wb_of (li_2 41 rfl) rfl, List.forall_mem_cons.mpr ⟨wb_of (li_2 43 rfl) rfl, List.forall_mem_cons.mpr ⟨wb_of (li_2 45 rfl) rfl, List.forall_mem_cons.mpr ⟨wb_of (li_2 47 rfl) rfl, List.forall_mem_cons.mpr ⟨wb_of (li_2 49 rfl) rfl, fun _ h => absurd h List.not_mem_nil⟩⟩⟩⟩⟩⟩⟩⟩⟩⟩⟩⟩⟩⟩⟩⟩
set_option maxRecDepth 100000 in
theorem uw_4 : ∀ w ∈ u_ws RX4 TX4 16, w ∈ WB := List.forall_mem_cons.mpr ⟨wb_of (li_1 206 rfl) rfl, List.forall_mem_cons.mpr ⟨wb_of (li_1 208 rfl) rfl, List.forall_mem_cons.mpr ⟨wb_of (li_1 210 rfl) rfl, List.forall_mem_cons.mpr ⟨wb_of (li_1 212 rfl) rfl, List.forall_mem_cons.mpr ⟨wb_of (li_1 214 rfl) rfl, List.forall_mem_cons.mpr ⟨wb_of (li_1 216 rfl) rfl, List.forall_mem_cons.mpr ⟨wb_of (li_1 218 rfl) rfl, List.forall_mem_cons.mpr ⟨wb_of (li_1 220 rfl) rfl, List.forall_mem_cons.mpr ⟨wb_of (li_1 222 rfl) rfl, List.forall_mem_cons.mpr ⟨wb_of (li_1 224 rfl) rfl, List.forall_mem_cons.mpr ⟨wb_of (li_1 226 rfl) rfl, List.forall_mem_cons.mpr ⟨wb_of (li_1 228 rfl) rfl, List.forall_mem_cons.mpr ⟨wb_of (li_1 230 rfl) rfl, List.forall_mem_cons.mpr ⟨wb_of (li_1 232 rfl) rfl, List.forall_mem_cons.mpr ⟨wb_of (li_1 234 rfl) rfl, List.forall_mem_cons.mpr ⟨wb_of (li_1 236 rfl) rfl, fun _ h => absurd h List.not_mem_nil⟩⟩⟩⟩⟩⟩⟩⟩⟩⟩⟩⟩⟩⟩⟩⟩
set_option maxRecDepth 100000 in
theorem uw_5 : ∀ w ∈ u_ws RX5 TX5 9, w ∈ WB := List.forall_mem_cons.mpr ⟨wb_of (li_2 179 rfl) rfl, List.forall_mem_cons.mpr ⟨wb_of (li_2 181 rfl) rfl, List.forall_mem_cons.mpr ⟨wb_of (li_2 183 rfl) rfl, List.forall_mem_cons.mpr ⟨wb_of (li_2 185 rfl) rfl, List.forall_mem_cons.mpr ⟨wb_of (li_2 187 rfl) rfl, List.forall_mem_cons.mpr ⟨wb_of (li_2 189 rfl) rfl, List.forall_mem_cons.mpr ⟨wb_of (li_2 191 rfl) rfl, List.forall_mem_cons.mpr ⟨wb_of (li_2 193 rfl) rfl, List.forall_mem_cons.mpr ⟨wb_of (li_2 195 rfl) rfl, fun _ h => absurd h List.not_mem_nil⟩⟩⟩⟩⟩⟩⟩⟩⟩
set_option maxRecDepth 100000 in
theorem uw_6 : ∀ w ∈ u_ws RX6 TX6 10, w ∈ WB := List.forall_mem_cons.mpr ⟨wb_of (li_2 74 rfl) rfl, List.forall_mem_cons.mpr ⟨wb_of (li_2 76 rfl) rfl, List.forall_mem_cons.mpr ⟨wb_of (li_2 78 rfl) rfl, List.forall_mem_cons.mpr ⟨wb_of (li_2 80 rfl) rfl, List.forall_mem_cons.mpr ⟨wb_of (li_2 82 rfl) rfl, List.forall_mem_cons.mpr ⟨wb_of (li_2 84 rfl) rfl, List.forall_mem_cons.mpr ⟨wb_of (li_2 86 rfl) rfl, List.forall_mem_cons.mpr ⟨wb_of (li_2 88 rfl) rfl, List.forall_mem_cons.mpr ⟨wb_of (li_2 90 rfl) rfl, List.forall_mem_cons.mpr ⟨wb_of (li_2 92 rfl) rfl, fun _ h => absurd h List.not_mem_nil⟩⟩⟩⟩⟩⟩⟩⟩⟩⟩
set_option maxRecDepth 100000 in
theorem uw_7 : ∀ w ∈ u_ws RX7 TX7 11, w ∈ WB := List.forall_mem_cons.mpr ⟨wb_of (li_1 64 rfl) rfl, List.forall_mem_cons.mpr ⟨wb_of (li_1 66 rfl) rfl, List.forall_mem_cons.mpr ⟨wb_of (li_1 68 rfl) rfl, List.forall_mem_cons.mpr ⟨wb_of (li_1 70 rfl) rfl, List.forall_mem_cons.mpr ⟨wb_of (li_1 72 rfl) rfl, List.forall_mem_cons.mpr ⟨wb_of (li_1 74 rfl) rfl, List.forall_mem_cons.mpr ⟨wb_of (li_1 76 rfl) rfl, List.forall_mem_cons.mpr ⟨wb_of (li_1 78 rfl) rfl, List.forall_mem_cons.mpr ⟨wb_of (li_1 80 rfl) rfl, List.forall_mem_cons.mpr ⟨wb_of (li_1 82 rfl) rfl, List.forall_mem_cons.mpr ⟨wb_of (li_1 84 rfl) rfl, fun _ h => absurd h List.not_mem_nil⟩⟩⟩⟩⟩⟩⟩⟩⟩⟩⟩
set_option maxRecDepth 100000 in
theorem uw_8 : ∀ w ∈ u_ws RX8 TX8 11, w ∈ WB := List.forall_mem_cons.mpr ⟨wb_of (li_1 120 rfl) rfl, List.forall_mem_cons.mpr ⟨wb_of (li_1 122 rfl) rfl, List.forall_mem_cons.mpr ⟨wb_of (li_1 124 rfl) rfl, List.forall_mem_cons.mpr ⟨wb_of (li_1 126 rfl) rfl, List.forall_mem_cons.mpr ⟨wb_of (li_1 128 rfl) rfl, List.forall_mem_cons.mpr ⟨wb_of (li_1 130 rfl) rfl, List.forall_mem_cons.mpr ⟨wb_of (li_1 132 rfl) rfl, List.forall_mem_cons.mpr ⟨wb_of (li_1 134 rfl) rfl, List.forall_mem_cons.mpr ⟨wb_of (li_1 136 rfl) rfl, List.forall_mem_cons.mpr ⟨wb_of (li_1 138 rfl) rfl, List.forall_mem_cons.mpr ⟨wb_of (li_1 140 rfl) rfl, fun _ h => absurd h List.not_mem_nil⟩⟩⟩⟩⟩⟩⟩⟩⟩⟩⟩
set_option maxRecDepth 100000 in
theorem uw_9 : ∀ w ∈ u_ws RX9 TX9 15, w ∈ WB := List.forall_mem_cons.mpr ⟨wb_of (li_2 107 rfl) rfl, List.forall_mem_cons.mpr ⟨wb_of (li_2 109 rfl) rfl, List.forall_mem_cons.mpr ⟨wb_of (li_2 111 rfl) rfl, List.forall_mem_cons.mpr ⟨wb_of (li_2 113 rfl) rfl, List.forall_mem_cons.mpr ⟨wb_of (li_2 115 rfl) rfl, List.forall_mem_cons.mpr ⟨wb_of (li_2 117 rfl) rfl, List.forall_mem_cons.mpr ⟨wb_of (li_2 119 rfl) rfl, List.forall_mem_cons.mpr ⟨wb_of (li_2 121 rfl) rfl, List.forall_mem_cons.mpr ⟨wb_of (li_2 123 rfl) rfl, List.forall_mem_cons.mpr ⟨wb_of (li_2 125 rfl) rfl, List.forall_mem_cons.mpr ⟨wb_of (li_2 127 rfl) rfl, List.forall_mem_cons.mpr ⟨wb_of (li_2 129 rfl) rfl, List.forall_mem_cons.mpr ⟨wb_of (li_2 131 rfl) rfl, List.forall_mem_cons.mpr ⟨wb_of (li_2 133 rfl) rfl, List.forall_mem_cons.mpr ⟨wb_of (li_2 135 rfl) rfl, fun _ h => absurd h List.not_mem_nil⟩⟩⟩⟩⟩⟩⟩⟩⟩⟩⟩⟩⟩⟩⟩
set_option maxRecDepth 100000 in
theorem uw_10 : ∀ w ∈ u_ws RX10 TX10 10, w ∈ WB := List.forall_mem_cons.mpr ⟨wb_of (li_3 12 rfl) rfl, List.forall_mem_cons.mpr ⟨wb_of (li_3 14 rfl) rfl, List.forall_mem_cons.mpr ⟨wb_of (li_3 16 rfl) rfl, List.forall_mem_cons.mpr ⟨wb_of (li_3 18 rfl) rfl, List.forall_mem_cons.mpr ⟨wb_of (li_3 20 rfl) rfl, List.forall_mem_cons.mpr ⟨wb_of (li_3 22 rfl) rfl, List.forall_mem_cons.mpr ⟨wb_of (li_3 24 rfl) rfl, List.forall_mem_cons.mpr ⟨wb_of (li_3 26 rfl) rfl, List.forall_mem_cons.mpr ⟨wb_of (li_3 28 rfl) rfl, List.forall_mem_cons.mpr ⟨wb_of (li_3 30 rfl) rfl, fun _ h => absurd h List.not_mem_nil⟩⟩⟩⟩⟩⟩⟩⟩⟩⟩
