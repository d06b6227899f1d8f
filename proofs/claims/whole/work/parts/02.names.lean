/-! names: the classes and their fields -/
def R_C : String := "PassedOnAndBetter$Company"
def T_C : u_T := fun k => match k with
  | 0 => ("PassedOnAndBetter$Company", "friendRow", "[LPassedOnAndBetter$Friend;", true)
  | 1 => ("PassedOnAndBetter$Company", "giftRow", "[LPassedOnAndBetter$Gift;", true)
  | 2 => ("PassedOnAndBetter$Company", "noFriend", "LPassedOnAndBetter$Friend;", true)
  | 3 => ("PassedOnAndBetter$Company", "noGift", "LPassedOnAndBetter$Gift;", true)
  | 4 => ("PassedOnAndBetter$Company", "friends", "I", false)
  | 5 => ("PassedOnAndBetter$Company", "gifts", "I", false)
  | _ => ("PassedOnAndBetter$Company", "month", "I", false)
def t_C : Nat → FieldType := fun k => match k with
  | 0 => .array (.object "PassedOnAndBetter$Friend")
  | 1 => .array (.object "PassedOnAndBetter$Gift")
  | 2 => .object "PassedOnAndBetter$Friend"
  | 3 => .object "PassedOnAndBetter$Gift"
  | 4 => .int
  | 5 => .int
  | _ => .int
theorem n_C : ∀ a, a < 7 → ∀ b, b < 7 → a ≠ b → (T_C a).2.1 ≠ (T_C b).2.1 := by decide +kernel
theorem t_C_ok : ∀ k, k < 7 → parseFieldDescriptor (T_C k).2.2.1 = some (t_C k) := by decide +kernel
def R_F : String := "PassedOnAndBetter$Friend"
def T_F : u_T := fun k => match k with
  | 0 => ("PassedOnAndBetter$Friend", "kind", "I", false)
  | 1 => ("PassedOnAndBetter$Friend", "figure", "I", false)
  | 2 => ("PassedOnAndBetter$Friend", "door", "I", false)
  | 3 => ("PassedOnAndBetter$Friend", "next", "I", false)
  | 4 => ("PassedOnAndBetter$Friend", "waits", "I", false)
  | 5 => ("PassedOnAndBetter$Friend", "adds", "I", false)
  | 6 => ("PassedOnAndBetter$Friend", "swells", "I", false)
  | 7 => ("PassedOnAndBetter$Friend", "times", "I", false)
  | _ => ("PassedOnAndBetter$Friend", "brought", "I", false)
def t_F : Nat → FieldType := fun k => match k with
  | 0 => .int
  | 1 => .int
  | 2 => .int
  | 3 => .int
  | 4 => .int
  | 5 => .int
  | 6 => .int
  | 7 => .int
  | _ => .int
theorem n_F : ∀ a, a < 9 → ∀ b, b < 9 → a ≠ b → (T_F a).2.1 ≠ (T_F b).2.1 := by decide +kernel
theorem t_F_ok : ∀ k, k < 9 → parseFieldDescriptor (T_F k).2.2.1 = some (t_F k) := by decide +kernel
def R_G : String := "PassedOnAndBetter$Gift"
def T_G : u_T := fun k => match k with
  | 0 => ("PassedOnAndBetter$Gift", "worth", "I", false)
  | 1 => ("PassedOnAndBetter$Gift", "size", "I", false)
  | 2 => ("PassedOnAndBetter$Gift", "with", "I", false)
  | 3 => ("PassedOnAndBetter$Gift", "kept", "I", false)
  | 4 => ("PassedOnAndBetter$Gift", "bettered", "Z", false)
  | _ => ("PassedOnAndBetter$Gift", "passed", "I", false)
def t_G : Nat → FieldType := fun k => match k with
  | 0 => .int
  | 1 => .int
  | 2 => .int
  | 3 => .int
  | 4 => .boolean
  | _ => .int
theorem n_G : ∀ a, a < 6 → ∀ b, b < 6 → a ≠ b → (T_G a).2.1 ≠ (T_G b).2.1 := by decide +kernel
theorem t_G_ok : ∀ k, k < 6 → parseFieldDescriptor (T_G k).2.2.1 = some (t_G k) := by decide +kernel
def R_L : String := "PassedOnAndBetter$Letters"
def T_L : u_T := fun k => match k with
  | 0 => ("PassedOnAndBetter$Letters", "cells", "[I", true)
  | _ => ("PassedOnAndBetter$Letters", "told", "I", false)
def t_L : Nat → FieldType := fun k => match k with
  | 0 => .array (.int)
  | _ => .int
theorem n_L : ∀ a, a < 2 → ∀ b, b < 2 → a ≠ b → (T_L a).2.1 ≠ (T_L b).2.1 := by decide +kernel
theorem t_L_ok : ∀ k, k < 2 → parseFieldDescriptor (T_L k).2.2.1 = some (t_L k) := by decide +kernel
def R_M : String := "PassedOnAndBetter$Mind"
def T_M : u_T := fun k => match k with
  | 0 => ("PassedOnAndBetter$Mind", "now", "LPassedOnAndBetter$Company;", true)
  | 1 => ("PassedOnAndBetter$Mind", "numbers", "LPassedOnAndBetter$Numbers;", true)
  | 2 => ("PassedOnAndBetter$Mind", "thought", "LPassedOnAndBetter$Company;", true)
  | 3 => ("PassedOnAndBetter$Mind", "oneHas", "[I", true)
  | _ => ("PassedOnAndBetter$Mind", "otherHas", "[I", true)
def t_M : Nat → FieldType := fun k => match k with
  | 0 => .object "PassedOnAndBetter$Company"
  | 1 => .object "PassedOnAndBetter$Numbers"
  | 2 => .object "PassedOnAndBetter$Company"
  | 3 => .array (.int)
  | _ => .array (.int)
theorem n_M : ∀ a, a < 5 → ∀ b, b < 5 → a ≠ b → (T_M a).2.1 ≠ (T_M b).2.1 := by decide +kernel
theorem t_M_ok : ∀ k, k < 5 → parseFieldDescriptor (T_M k).2.2.1 = some (t_M k) := by decide +kernel
def R_N : String := "PassedOnAndBetter$Numbers"
def T_N : u_T := fun k => match k with
  | 0 => ("PassedOnAndBetter$Numbers", "cells", "[I", true)
  | _ => ("PassedOnAndBetter$Numbers", "told", "I", false)
def t_N : Nat → FieldType := fun k => match k with
  | 0 => .array (.int)
  | _ => .int
theorem n_N : ∀ a, a < 2 → ∀ b, b < 2 → a ≠ b → (T_N a).2.1 ≠ (T_N b).2.1 := by decide +kernel
theorem t_N_ok : ∀ k, k < 2 → parseFieldDescriptor (T_N k).2.2.1 = some (t_N k) := by decide +kernel
def R_P : String := "PassedOnAndBetter$Past"
def T_P : u_T := fun k => match k with
  | 0 => ("PassedOnAndBetter$Past", "before", "[LPassedOnAndBetter$Company;", true)
  | 1 => ("PassedOnAndBetter$Past", "start", "I", false)
  | _ => ("PassedOnAndBetter$Past", "held", "I", false)
def t_P : Nat → FieldType := fun k => match k with
  | 0 => .array (.object "PassedOnAndBetter$Company")
  | 1 => .int
  | _ => .int
theorem n_P : ∀ a, a < 3 → ∀ b, b < 3 → a ≠ b → (T_P a).2.1 ≠ (T_P b).2.1 := by decide +kernel
theorem t_P_ok : ∀ k, k < 3 → parseFieldDescriptor (T_P k).2.2.1 = some (t_P k) := by decide +kernel
def R_X : String := "PassedOnAndBetter"
def T_X : u_T := fun k => match k with
  | 0 => ("PassedOnAndBetter", "now", "LPassedOnAndBetter$Company;", true)
  | 1 => ("PassedOnAndBetter", "pictured", "LPassedOnAndBetter$Company;", true)
  | 2 => ("PassedOnAndBetter", "past", "LPassedOnAndBetter$Past;", true)
  | 3 => ("PassedOnAndBetter", "letters", "LPassedOnAndBetter$Letters;", true)
  | 4 => ("PassedOnAndBetter", "numbers", "LPassedOnAndBetter$Numbers;", true)
  | 5 => ("PassedOnAndBetter", "mind", "LPassedOnAndBetter$Mind;", true)
  | 6 => ("PassedOnAndBetter", "refusals", "[I", true)
  | _ => ("PassedOnAndBetter", "hasPicture", "Z", false)
def t_X : Nat → FieldType := fun k => match k with
  | 0 => .object "PassedOnAndBetter$Company"
  | 1 => .object "PassedOnAndBetter$Company"
  | 2 => .object "PassedOnAndBetter$Past"
  | 3 => .object "PassedOnAndBetter$Letters"
  | 4 => .object "PassedOnAndBetter$Numbers"
  | 5 => .object "PassedOnAndBetter$Mind"
  | 6 => .array (.int)
  | _ => .boolean
theorem n_X : ∀ a, a < 8 → ∀ b, b < 8 → a ≠ b → (T_X a).2.1 ≠ (T_X b).2.1 := by decide +kernel
theorem t_X_ok : ∀ k, k < 8 → parseFieldDescriptor (T_X k).2.2.1 = some (t_X k) := by decide +kernel
def R_R : String := "PassedOnAndBetterModel"
def T_R : u_T := fun k => match k with
  | 0 => ("PassedOnAndBetterModel", "refused", "[I", true)
  | 1 => ("PassedOnAndBetterModel", "kind", "[I", true)
  | 2 => ("PassedOnAndBetterModel", "figure", "[I", true)
  | 3 => ("PassedOnAndBetterModel", "door", "[I", true)
  | 4 => ("PassedOnAndBetterModel", "next", "[I", true)
  | 5 => ("PassedOnAndBetterModel", "worth", "[I", true)
  | 6 => ("PassedOnAndBetterModel", "size", "[I", true)
  | 7 => ("PassedOnAndBetterModel", "holder", "[I", true)
  | 8 => ("PassedOnAndBetterModel", "kept", "[I", true)
  | 9 => ("PassedOnAndBetterModel", "bettered", "[I", true)
  | 10 => ("PassedOnAndBetterModel", "given", "[I", true)
  | 11 => ("PassedOnAndBetterModel", "friends", "I", false)
  | 12 => ("PassedOnAndBetterModel", "gifts", "I", false)
  | 13 => ("PassedOnAndBetterModel", "month", "I", false)
  | 14 => ("PassedOnAndBetterModel", "twice", "I", false)
  | 15 => ("PassedOnAndBetterModel", "added", "[I", true)
  | 16 => ("PassedOnAndBetterModel", "tape", "[I", true)
  | 17 => ("PassedOnAndBetterModel", "letter", "[I", true)
  | 18 => ("PassedOnAndBetterModel", "letterAt", "[I", true)
  | 19 => ("PassedOnAndBetterModel", "told", "[I", true)
  | 20 => ("PassedOnAndBetterModel", "taped", "I", false)
  | 21 => ("PassedOnAndBetterModel", "reading", "I", false)
  | 22 => ("PassedOnAndBetterModel", "statements", "I", false)
  | 23 => ("PassedOnAndBetterModel", "store", "[I", true)
  | 24 => ("PassedOnAndBetterModel", "hasImage", "Z", false)
  | 25 => ("PassedOnAndBetterModel", "isKeeping", "Z", false)
  | 26 => ("PassedOnAndBetterModel", "cursor", "I", false)
  | 27 => ("PassedOnAndBetterModel", "backs", "I", false)
  | 28 => ("PassedOnAndBetterModel", "row", "[I", true)
  | 29 => ("PassedOnAndBetterModel", "rowMany", "I", false)
  | 30 => ("PassedOnAndBetterModel", "gets", "[I", true)
  | _ => ("PassedOnAndBetterModel", "lots", "I", false)
def t_R : Nat → FieldType := fun k => match k with
  | 0 => .array (.int)
  | 1 => .array (.int)
  | 2 => .array (.int)
  | 3 => .array (.int)
  | 4 => .array (.int)
  | 5 => .array (.int)
  | 6 => .array (.int)
  | 7 => .array (.int)
  | 8 => .array (.int)
  | 9 => .array (.int)
  | 10 => .array (.int)
  | 11 => .int
  | 12 => .int
  | 13 => .int
  | 14 => .int
  | 15 => .array (.int)
  | 16 => .array (.int)
  | 17 => .array (.int)
  | 18 => .array (.int)
  | 19 => .array (.int)
  | 20 => .int
  | 21 => .int
  | 22 => .int
  | 23 => .array (.int)
  | 24 => .boolean
  | 25 => .boolean
  | 26 => .int
  | 27 => .int
  | 28 => .array (.int)
  | 29 => .int
  | 30 => .array (.int)
  | _ => .int
theorem n_R : ∀ a, a < 32 → ∀ b, b < 32 → a ≠ b → (T_R a).2.1 ≠ (T_R b).2.1 := by decide +kernel
theorem t_R_ok : ∀ k, k < 32 → parseFieldDescriptor (T_R k).2.2.1 = some (t_R k) := by decide +kernel
abbrev wCls : List vw_C := [(R_C, T_C, 7), (R_F, T_F, 9), (R_G, T_G, 6), (R_L, T_L, 2), (R_M, T_M, 5), (R_N, T_N, 2), (R_P, T_P, 3), (R_X, T_X, 8), (R_R, T_R, 32)]
/-- the words that every method is given -/
def tbG : List Cond := lw_tbl.filter goodWord
theorem mG {w : Cond} (i : Nat) (h : lw_tbl[i]? = some w) (g : goodWord w = true) : w ∈ tbG := List.mem_filter.mpr ⟨List.mem_of_getElem? h, g⟩
theorem giG {y : MethodName} {c : ByteArray} {n : Nat} {r : Option FieldType} (h : Cond.code y c n r ∈ tbG) : GoodIn tbG (.code y c n r :: tbG) := by
  intro w hw
  rcases List.mem_cons.mp hw with rfl | hw
  · exact ⟨h, good_of_word (List.mem_filter.mp h).2⟩
  · exact ⟨hw, good_of_word (List.mem_filter.mp hw).2⟩
set_option maxRecDepth 20000 in
theorem i_C : ∀ w ∈ u_ws R_C T_C 7, w ∈ tbG := by
  have h : ∀ k, k < 7 → u_lay R_C T_C k ∈ tbG := by
    intro k hk
    match k, hk with
    | 0, _ => exact mG 216 (by decide +kernel) (by decide +kernel)
    | 1, _ => exact mG 218 (by decide +kernel) (by decide +kernel)
    | 2, _ => exact mG 220 (by decide +kernel) (by decide +kernel)
    | 3, _ => exact mG 222 (by decide +kernel) (by decide +kernel)
    | 4, _ => exact mG 224 (by decide +kernel) (by decide +kernel)
    | 5, _ => exact mG 226 (by decide +kernel) (by decide +kernel)
    | 6, _ => exact mG 228 (by decide +kernel) (by decide +kernel)
    | k + 7, h => exact absurd h (by omega)
  intro w hw
  obtain ⟨k, hk, rfl⟩ := List.mem_map.mp hw
  exact h k (List.mem_range.mp hk)
set_option maxRecDepth 20000 in
theorem i_F : ∀ w ∈ u_ws R_F T_F 9, w ∈ tbG := by
  have h : ∀ k, k < 9 → u_lay R_F T_F k ∈ tbG := by
    intro k hk
    match k, hk with
    | 0, _ => exact mG 146 (by decide +kernel) (by decide +kernel)
    | 1, _ => exact mG 148 (by decide +kernel) (by decide +kernel)
    | 2, _ => exact mG 150 (by decide +kernel) (by decide +kernel)
    | 3, _ => exact mG 152 (by decide +kernel) (by decide +kernel)
    | 4, _ => exact mG 154 (by decide +kernel) (by decide +kernel)
    | 5, _ => exact mG 156 (by decide +kernel) (by decide +kernel)
    | 6, _ => exact mG 158 (by decide +kernel) (by decide +kernel)
    | 7, _ => exact mG 160 (by decide +kernel) (by decide +kernel)
    | 8, _ => exact mG 162 (by decide +kernel) (by decide +kernel)
    | k + 9, h => exact absurd h (by omega)
  intro w hw
  obtain ⟨k, hk, rfl⟩ := List.mem_map.mp hw
  exact h k (List.mem_range.mp hk)
set_option maxRecDepth 20000 in
theorem i_G : ∀ w ∈ u_ws R_G T_G 6, w ∈ tbG := by
  have h : ∀ k, k < 6 → u_lay R_G T_G k ∈ tbG := by
    intro k hk
    match k, hk with
    | 0, _ => exact mG 190 (by decide +kernel) (by decide +kernel)
    | 1, _ => exact mG 192 (by decide +kernel) (by decide +kernel)
    | 2, _ => exact mG 194 (by decide +kernel) (by decide +kernel)
    | 3, _ => exact mG 196 (by decide +kernel) (by decide +kernel)
    | 4, _ => exact mG 198 (by decide +kernel) (by decide +kernel)
    | 5, _ => exact mG 200 (by decide +kernel) (by decide +kernel)
    | k + 6, h => exact absurd h (by omega)
  intro w hw
  obtain ⟨k, hk, rfl⟩ := List.mem_map.mp hw
  exact h k (List.mem_range.mp hk)
set_option maxRecDepth 20000 in
theorem i_L : ∀ w ∈ u_ws R_L T_L 2, w ∈ tbG := by
  have h : ∀ k, k < 2 → u_lay R_L T_L k ∈ tbG := by
    intro k hk
    match k, hk with
    | 0, _ => exact mG 260 (by decide +kernel) (by decide +kernel)
    | 1, _ => exact mG 262 (by decide +kernel) (by decide +kernel)
    | k + 2, h => exact absurd h (by omega)
  intro w hw
  obtain ⟨k, hk, rfl⟩ := List.mem_map.mp hw
  exact h k (List.mem_range.mp hk)
set_option maxRecDepth 20000 in
theorem i_M : ∀ w ∈ u_ws R_M T_M 5, w ∈ tbG := by
  have h : ∀ k, k < 5 → u_lay R_M T_M k ∈ tbG := by
    intro k hk
    match k, hk with
    | 0, _ => exact mG 295 (by decide +kernel) (by decide +kernel)
    | 1, _ => exact mG 297 (by decide +kernel) (by decide +kernel)
    | 2, _ => exact mG 299 (by decide +kernel) (by decide +kernel)
    | 3, _ => exact mG 301 (by decide +kernel) (by decide +kernel)
    | 4, _ => exact mG 303 (by decide +kernel) (by decide +kernel)
    | k + 5, h => exact absurd h (by omega)
  intro w hw
  obtain ⟨k, hk, rfl⟩ := List.mem_map.mp hw
  exact h k (List.mem_range.mp hk)
set_option maxRecDepth 20000 in
theorem i_N : ∀ w ∈ u_ws R_N T_N 2, w ∈ tbG := by
  have h : ∀ k, k < 2 → u_lay R_N T_N k ∈ tbG := by
    intro k hk
    match k, hk with
    | 0, _ => exact mG 277 (by decide +kernel) (by decide +kernel)
    | 1, _ => exact mG 279 (by decide +kernel) (by decide +kernel)
    | k + 2, h => exact absurd h (by omega)
  intro w hw
  obtain ⟨k, hk, rfl⟩ := List.mem_map.mp hw
  exact h k (List.mem_range.mp hk)
set_option maxRecDepth 20000 in
theorem i_P : ∀ w ∈ u_ws R_P T_P 3, w ∈ tbG := by
  have h : ∀ k, k < 3 → u_lay R_P T_P k ∈ tbG := by
    intro k hk
    match k, hk with
    | 0, _ => exact mG 244 (by decide +kernel) (by decide +kernel)
    | 1, _ => exact mG 246 (by decide +kernel) (by decide +kernel)
    | 2, _ => exact mG 248 (by decide +kernel) (by decide +kernel)
    | k + 3, h => exact absurd h (by omega)
  intro w hw
  obtain ⟨k, hk, rfl⟩ := List.mem_map.mp hw
  exact h k (List.mem_range.mp hk)
set_option maxRecDepth 20000 in
theorem i_X : ∀ w ∈ u_ws R_X T_X 8, w ∈ tbG := by
  have h : ∀ k, k < 8 → u_lay R_X T_X k ∈ tbG := by
    intro k hk
    match k, hk with
    | 0, _ => exact mG 314 (by decide +kernel) (by decide +kernel)
    | 1, _ => exact mG 316 (by decide +kernel) (by decide +kernel)
    | 2, _ => exact mG 318 (by decide +kernel) (by decide +kernel)
    | 3, _ => exact mG 320 (by decide +kernel) (by decide +kernel)
    | 4, _ => exact mG 322 (by decide +kernel) (by decide +kernel)
    | 5, _ => exact mG 324 (by decide +kernel) (by decide +kernel)
    | 6, _ => exact mG 326 (by decide +kernel) (by decide +kernel)
    | 7, _ => exact mG 328 (by decide +kernel) (by decide +kernel)
    | k + 8, h => exact absurd h (by omega)
  intro w hw
  obtain ⟨k, hk, rfl⟩ := List.mem_map.mp hw
  exact h k (List.mem_range.mp hk)
set_option maxRecDepth 20000 in
theorem i_R : ∀ w ∈ u_ws R_R T_R 32, w ∈ tbG := by
  have h : ∀ k, k < 32 → u_lay R_R T_R k ∈ tbG := by
    intro k hk
    match k, hk with
    | 0, _ => exact mG 1035 (by decide +kernel) (by decide +kernel)
    | 1, _ => exact mG 1037 (by decide +kernel) (by decide +kernel)
    | 2, _ => exact mG 1039 (by decide +kernel) (by decide +kernel)
    | 3, _ => exact mG 1041 (by decide +kernel) (by decide +kernel)
    | 4, _ => exact mG 1043 (by decide +kernel) (by decide +kernel)
    | 5, _ => exact mG 1045 (by decide +kernel) (by decide +kernel)
    | 6, _ => exact mG 1047 (by decide +kernel) (by decide +kernel)
    | 7, _ => exact mG 1049 (by decide +kernel) (by decide +kernel)
    | 8, _ => exact mG 1051 (by decide +kernel) (by decide +kernel)
    | 9, _ => exact mG 1053 (by decide +kernel) (by decide +kernel)
    | 10, _ => exact mG 1055 (by decide +kernel) (by decide +kernel)
    | 11, _ => exact mG 1057 (by decide +kernel) (by decide +kernel)
    | 12, _ => exact mG 1059 (by decide +kernel) (by decide +kernel)
    | 13, _ => exact mG 1061 (by decide +kernel) (by decide +kernel)
    | 14, _ => exact mG 1063 (by decide +kernel) (by decide +kernel)
    | 15, _ => exact mG 1065 (by decide +kernel) (by decide +kernel)
    | 16, _ => exact mG 1067 (by decide +kernel) (by decide +kernel)
    | 17, _ => exact mG 1069 (by decide +kernel) (by decide +kernel)
    | 18, _ => exact mG 1071 (by decide +kernel) (by decide +kernel)
    | 19, _ => exact mG 1073 (by decide +kernel) (by decide +kernel)
    | 20, _ => exact mG 1075 (by decide +kernel) (by decide +kernel)
    | 21, _ => exact mG 1077 (by decide +kernel) (by decide +kernel)
    | 22, _ => exact mG 1079 (by decide +kernel) (by decide +kernel)
    | 23, _ => exact mG 1081 (by decide +kernel) (by decide +kernel)
    | 24, _ => exact mG 1083 (by decide +kernel) (by decide +kernel)
    | 25, _ => exact mG 1085 (by decide +kernel) (by decide +kernel)
    | 26, _ => exact mG 1087 (by decide +kernel) (by decide +kernel)
    | 27, _ => exact mG 1089 (by decide +kernel) (by decide +kernel)
    | 28, _ => exact mG 1091 (by decide +kernel) (by decide +kernel)
    | 29, _ => exact mG 1093 (by decide +kernel) (by decide +kernel)
    | 30, _ => exact mG 1095 (by decide +kernel) (by decide +kernel)
    | 31, _ => exact mG 1097 (by decide +kernel) (by decide +kernel)
    | k + 32, h => exact absurd h (by omega)
  intro w hw
  obtain ⟨k, hk, rfl⟩ := List.mem_map.mp hw
  exact h k (List.mem_range.mp hk)
