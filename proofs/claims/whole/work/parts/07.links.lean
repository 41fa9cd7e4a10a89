theorem mT1 {w : Cond} (i : Nat) (h : tables_1_1[i]? = some w) (hg : goodWord w = true) : w ∈ lwT := by
  have h1 := List.mem_of_getElem? h
  exact List.mem_filter.mpr ⟨List.mem_append_right _ (List.mem_append_left _ h1), hg⟩
theorem mT2 {w : Cond} (i : Nat) (h : tables_1_2[i]? = some w) (hg : goodWord w = true) : w ∈ lwT := by
  have h1 := List.mem_of_getElem? h
  exact List.mem_filter.mpr ⟨List.mem_append_right _ (List.mem_append_right _ (List.mem_append_left _ h1)), hg⟩
theorem mT3 {w : Cond} (i : Nat) (h : tables_1_3[i]? = some w) (hg : goodWord w = true) : w ∈ lwT := by
  have h1 := List.mem_of_getElem? h
  exact List.mem_filter.mpr ⟨List.mem_append_right _ (List.mem_append_right _ (List.mem_append_right _ (List.mem_append_left _ h1))), hg⟩
theorem mT4 {w : Cond} (i : Nat) (h : tables_1_4[i]? = some w) (hg : goodWord w = true) : w ∈ lwT := by
  have h1 := List.mem_of_getElem? h
  exact List.mem_filter.mpr ⟨List.mem_append_right _ (List.mem_append_right _ (List.mem_append_right _ (List.mem_append_right _ (List.mem_append_left _ h1)))), hg⟩
theorem mT5 {w : Cond} (i : Nat) (h : tables_1_5[i]? = some w) (hg : goodWord w = true) : w ∈ lwT := by
  have h1 := List.mem_of_getElem? h
  exact List.mem_filter.mpr ⟨List.mem_append_right _ (List.mem_append_right _ (List.mem_append_right _ (List.mem_append_right _ (List.mem_append_right _ h1)))), hg⟩
theorem mTp1 {y : MethodName} {n : Nat} (i : Nat) (h : lw_privs_1[i]? = some (y, n)) : Cond.selects y.cls y y ∈ lwT := by
  have h1 := List.mem_of_getElem? h
  have h2 : (y, n) ∈ lw_privs := List.mem_append_left _ h1
  exact List.mem_filter.mpr ⟨List.mem_append_left _ (List.mem_map.mpr ⟨(y, n), h2, rfl⟩), rfl⟩
theorem mTp2 {y : MethodName} {n : Nat} (i : Nat) (h : lw_privs_2[i]? = some (y, n)) : Cond.selects y.cls y y ∈ lwT := by
  have h1 := List.mem_of_getElem? h
  have h2 : (y, n) ∈ lw_privs := List.mem_append_right _ (List.mem_append_left _ h1)
  exact List.mem_filter.mpr ⟨List.mem_append_left _ (List.mem_map.mpr ⟨(y, n), h2, rfl⟩), rfl⟩
theorem mTp3 {y : MethodName} {n : Nat} (i : Nat) (h : lw_privs_3[i]? = some (y, n)) : Cond.selects y.cls y y ∈ lwT := by
  have h1 := List.mem_of_getElem? h
  have h2 : (y, n) ∈ lw_privs := List.mem_append_right _ (List.mem_append_right _ (List.mem_append_left _ h1))
  exact List.mem_filter.mpr ⟨List.mem_append_left _ (List.mem_map.mpr ⟨(y, n), h2, rfl⟩), rfl⟩
theorem mTp4 {y : MethodName} {n : Nat} (i : Nat) (h : lw_privs_4[i]? = some (y, n)) : Cond.selects y.cls y y ∈ lwT := by
  have h1 := List.mem_of_getElem? h
  have h2 : (y, n) ∈ lw_privs := List.mem_append_right _ (List.mem_append_right _ (List.mem_append_right _ h1))
  exact List.mem_filter.mpr ⟨List.mem_append_left _ (List.mem_map.mpr ⟨(y, n), h2, rfl⟩), rfl⟩
def CVj (own : String) (idx : Nat) (y : MethodName) (bs : ByteArray) (ml : Nat) (rt : Option FieldType) (n : Nat) : Prop := Cond.code y bs ml rt ∈ lwT ∧ Cond.methodLink own idx y ∈ lwT ∧ Cond.instanceMethod y ∈ lwT ∧ Cond.selects y.cls y y ∈ lwT ∧ Cond.initialized y.cls ∈ lwT ∧ y.cls ≠ "java/lang/invoke/MethodHandle" ∧ y.cls ≠ "java/lang/invoke/VarHandle" ∧ (parseMethodDescriptor y.desc).map (fun d => d.parameters.length) = some n ∧ ml ≤ 60
theorem flX7_9 : FL RX7 9 7 0 := ⟨RX7, TX7, 2, rfl, by decide, mT1 34 rfl rfl, rfl⟩
theorem flX4_102 : FL RX4 102 7 0 := ⟨RX7, TX7, 2, rfl, by decide, mT1 35 rfl rfl, rfl⟩
theorem flX7_15 : FL RX7 15 7 1 := ⟨RX7, TX7, 2, rfl, by decide, mT1 36 rfl rfl, rfl⟩
theorem fpX7_15 : FP RX7 15 7 1 .int := ⟨flX7_15, fun C T N h => by cases h; exact ⟨rfl, by decide +kernel⟩⟩
theorem flX9_96 : FL RX9 96 7 1 := ⟨RX7, TX7, 2, rfl, by decide, mT1 37 rfl rfl, rfl⟩
theorem fpX9_96 : FP RX9 96 7 1 .int := ⟨flX9_96, fun C T N h => by cases h; exact ⟨rfl, by decide +kernel⟩⟩
theorem flX4_97 : FL RX4 97 7 1 := ⟨RX7, TX7, 2, rfl, by decide, mT1 38 rfl rfl, rfl⟩
theorem fpX4_97 : FP RX4 97 7 1 .int := ⟨flX4_97, fun C T N h => by cases h; exact ⟨rfl, by decide +kernel⟩⟩
theorem flX5_9 : FL RX5 9 5 0 := ⟨RX5, TX5, 8, rfl, by decide, mT1 51 rfl rfl, rfl⟩
theorem fpX5_9 : FP RX5 9 5 0 .int := ⟨flX5_9, fun C T N h => by cases h; exact ⟨rfl, by decide +kernel⟩⟩
theorem flX1_23 : FL RX1 23 5 0 := ⟨RX5, TX5, 8, rfl, by decide, mT1 52 rfl rfl, rfl⟩
theorem fpX1_23 : FP RX1 23 5 0 .int := ⟨flX1_23, fun C T N h => by cases h; exact ⟨rfl, by decide +kernel⟩⟩
theorem flX2_32 : FL RX2 32 5 0 := ⟨RX5, TX5, 8, rfl, by decide, mT1 53 rfl rfl, rfl⟩
theorem fpX2_32 : FP RX2 32 5 0 .int := ⟨flX2_32, fun C T N h => by cases h; exact ⟨rfl, by decide +kernel⟩⟩
theorem flX6_28 : FL RX6 28 5 0 := ⟨RX5, TX5, 8, rfl, by decide, mT1 54 rfl rfl, rfl⟩
theorem fpX6_28 : FP RX6 28 5 0 .int := ⟨flX6_28, fun C T N h => by cases h; exact ⟨rfl, by decide +kernel⟩⟩
theorem flX4_63 : FL RX4 63 5 0 := ⟨RX5, TX5, 8, rfl, by decide, mT1 55 rfl rfl, rfl⟩
theorem fpX4_63 : FP RX4 63 5 0 .int := ⟨flX4_63, fun C T N h => by cases h; exact ⟨rfl, by decide +kernel⟩⟩
theorem flX8_44 : FL RX8 44 5 0 := ⟨RX5, TX5, 8, rfl, by decide, mT1 56 rfl rfl, rfl⟩
theorem fpX8_44 : FP RX8 44 5 0 .int := ⟨flX8_44, fun C T N h => by cases h; exact ⟨rfl, by decide +kernel⟩⟩
theorem flX0_73 : FL RX0 73 5 0 := ⟨RX5, TX5, 8, rfl, by decide, mT1 57 rfl rfl, rfl⟩
theorem fpX0_73 : FP RX0 73 5 0 .int := ⟨flX0_73, fun C T N h => by cases h; exact ⟨rfl, by decide +kernel⟩⟩
theorem flX9_229 : FL RX9 229 5 0 := ⟨RX5, TX5, 8, rfl, by decide, mT1 58 rfl rfl, rfl⟩
theorem fpX9_229 : FP RX9 229 5 0 .int := ⟨flX9_229, fun C T N h => by cases h; exact ⟨rfl, by decide +kernel⟩⟩
theorem flX5_15 : FL RX5 15 5 1 := ⟨RX5, TX5, 8, rfl, by decide, mT1 59 rfl rfl, rfl⟩
theorem flX9_122 : FL RX9 122 5 1 := ⟨RX5, TX5, 8, rfl, by decide, mT1 60 rfl rfl, rfl⟩
theorem flX8_56 : FL RX8 56 5 1 := ⟨RX5, TX5, 8, rfl, by decide, mT1 61 rfl rfl, rfl⟩
theorem flX5_19 : FL RX5 19 5 2 := ⟨RX5, TX5, 8, rfl, by decide, mT1 62 rfl rfl, rfl⟩
theorem flX9_126 : FL RX9 126 5 2 := ⟨RX5, TX5, 8, rfl, by decide, mT1 63 rfl rfl, rfl⟩
theorem flX8_59 : FL RX8 59 5 2 := ⟨RX5, TX5, 8, rfl, by decide, mT1 64 rfl rfl, rfl⟩
theorem flX5_22 : FL RX5 22 5 3 := ⟨RX5, TX5, 8, rfl, by decide, mT1 65 rfl rfl, rfl⟩
theorem flX9_129 : FL RX9 129 5 3 := ⟨RX5, TX5, 8, rfl, by decide, mT1 66 rfl rfl, rfl⟩
theorem flX8_70 : FL RX8 70 5 3 := ⟨RX5, TX5, 8, rfl, by decide, mT1 67 rfl rfl, rfl⟩
theorem flX5_25 : FL RX5 25 5 4 := ⟨RX5, TX5, 8, rfl, by decide, mT1 68 rfl rfl, rfl⟩
theorem fpX5_25 : FP RX5 25 5 4 .int := ⟨flX5_25, fun C T N h => by cases h; exact ⟨rfl, by decide +kernel⟩⟩
theorem flX6_44 : FL RX6 44 5 4 := ⟨RX5, TX5, 8, rfl, by decide, mT1 69 rfl rfl, rfl⟩
theorem fpX6_44 : FP RX6 44 5 4 .int := ⟨flX6_44, fun C T N h => by cases h; exact ⟨rfl, by decide +kernel⟩⟩
theorem flX4_77 : FL RX4 77 5 4 := ⟨RX5, TX5, 8, rfl, by decide, mT1 70 rfl rfl, rfl⟩
theorem fpX4_77 : FP RX4 77 5 4 .int := ⟨flX4_77, fun C T N h => by cases h; exact ⟨rfl, by decide +kernel⟩⟩
theorem flX0_58 : FL RX0 58 5 4 := ⟨RX5, TX5, 8, rfl, by decide, mT1 71 rfl rfl, rfl⟩
theorem fpX0_58 : FP RX0 58 5 4 .int := ⟨flX0_58, fun C T N h => by cases h; exact ⟨rfl, by decide +kernel⟩⟩
theorem flX9_188 : FL RX9 188 5 4 := ⟨RX5, TX5, 8, rfl, by decide, mT1 72 rfl rfl, rfl⟩
theorem fpX9_188 : FP RX9 188 5 4 .int := ⟨flX9_188, fun C T N h => by cases h; exact ⟨rfl, by decide +kernel⟩⟩
theorem flX5_28 : FL RX5 28 5 5 := ⟨RX5, TX5, 8, rfl, by decide, mT1 73 rfl rfl, rfl⟩
theorem flX8_32 : FL RX8 32 5 5 := ⟨RX5, TX5, 8, rfl, by decide, mT1 74 rfl rfl, rfl⟩
theorem flX9_144 : FL RX9 144 5 5 := ⟨RX5, TX5, 8, rfl, by decide, mT1 75 rfl rfl, rfl⟩
theorem flX5_31 : FL RX5 31 5 6 := ⟨RX5, TX5, 8, rfl, by decide, mT1 76 rfl rfl, rfl⟩
theorem flX9_147 : FL RX9 147 5 6 := ⟨RX5, TX5, 8, rfl, by decide, mT1 77 rfl rfl, rfl⟩
theorem flX8_53 : FL RX8 53 5 6 := ⟨RX5, TX5, 8, rfl, by decide, mT1 78 rfl rfl, rfl⟩
theorem flX5_34 : FL RX5 34 5 7 := ⟨RX5, TX5, 8, rfl, by decide, mT1 79 rfl rfl, rfl⟩
theorem flX8_41 : FL RX8 41 5 7 := ⟨RX5, TX5, 8, rfl, by decide, mT1 80 rfl rfl, rfl⟩
theorem flX0_88 : FL RX0 88 5 7 := ⟨RX5, TX5, 8, rfl, by decide, mT1 81 rfl rfl, rfl⟩
theorem flX9_150 : FL RX9 150 5 7 := ⟨RX5, TX5, 8, rfl, by decide, mT1 82 rfl rfl, rfl⟩
theorem flX3_9 : FL RX3 9 3 0 := ⟨RX3, TX3, 5, rfl, by decide, mT1 110 rfl rfl, rfl⟩
theorem flX4_87 : FL RX4 87 3 0 := ⟨RX3, TX3, 5, rfl, by decide, mT1 111 rfl rfl, rfl⟩
theorem flX9_132 : FL RX9 132 3 0 := ⟨RX3, TX3, 5, rfl, by decide, mT1 112 rfl rfl, rfl⟩
theorem flX3_15 : FL RX3 15 3 1 := ⟨RX3, TX3, 5, rfl, by decide, mT1 113 rfl rfl, rfl⟩
theorem flX2_38 : FL RX2 38 3 1 := ⟨RX3, TX3, 5, rfl, by decide, mT1 114 rfl rfl, rfl⟩
theorem flX9_138 : FL RX9 138 3 1 := ⟨RX3, TX3, 5, rfl, by decide, mT1 115 rfl rfl, rfl⟩
theorem flX4_94 : FL RX4 94 3 1 := ⟨RX3, TX3, 5, rfl, by decide, mT1 116 rfl rfl, rfl⟩
theorem flX3_18 : FL RX3 18 3 2 := ⟨RX3, TX3, 5, rfl, by decide, mT1 117 rfl rfl, rfl⟩
theorem fpX3_18 : FP RX3 18 3 2 .int := ⟨flX3_18, fun C T N h => by cases h; exact ⟨rfl, by decide +kernel⟩⟩
theorem flX9_135 : FL RX9 135 3 2 := ⟨RX3, TX3, 5, rfl, by decide, mT1 118 rfl rfl, rfl⟩
theorem fpX9_135 : FP RX9 135 3 2 .int := ⟨flX9_135, fun C T N h => by cases h; exact ⟨rfl, by decide +kernel⟩⟩
theorem flX3_22 : FL RX3 22 3 3 := ⟨RX3, TX3, 5, rfl, by decide, mT1 119 rfl rfl, rfl⟩
theorem fpX3_22 : FP RX3 22 3 3 .int := ⟨flX3_22, fun C T N h => by cases h; exact ⟨rfl, by decide +kernel⟩⟩
theorem flX9_232 : FL RX9 232 3 3 := ⟨RX3, TX3, 5, rfl, by decide, mT1 120 rfl rfl, rfl⟩
theorem fpX9_232 : FP RX9 232 3 3 .int := ⟨flX9_232, fun C T N h => by cases h; exact ⟨rfl, by decide +kernel⟩⟩
theorem flX3_25 : FL RX3 25 3 4 := ⟨RX3, TX3, 5, rfl, by decide, mT1 121 rfl rfl, rfl⟩
theorem flX6_51 : FL RX6 51 3 4 := ⟨RX3, TX3, 5, rfl, by decide, mT1 122 rfl rfl, rfl⟩
theorem flX9_235 : FL RX9 235 3 4 := ⟨RX3, TX3, 5, rfl, by decide, mT1 123 rfl rfl, rfl⟩
theorem flX4_24 : FL RX4 24 4 0 := ⟨RX4, TX4, 7, rfl, by decide, mT1 141 rfl rfl, rfl⟩
theorem flX4_28 : FL RX4 28 4 1 := ⟨RX4, TX4, 7, rfl, by decide, mT1 142 rfl rfl, rfl⟩
theorem flX4_32 : FL RX4 32 4 2 := ⟨RX4, TX4, 7, rfl, by decide, mT1 143 rfl rfl, rfl⟩
theorem flX4_9 : FL RX4 9 4 3 := ⟨RX4, TX4, 7, rfl, by decide, mT1 144 rfl rfl, rfl⟩
theorem fpX4_9 : FP RX4 9 4 3 .int := ⟨flX4_9, fun C T N h => by cases h; exact ⟨rfl, by decide +kernel⟩⟩
theorem flX4_15 : FL RX4 15 4 4 := ⟨RX4, TX4, 7, rfl, by decide, mT1 145 rfl rfl, rfl⟩
theorem fpX4_15 : FP RX4 15 4 4 .int := ⟨flX4_15, fun C T N h => by cases h; exact ⟨rfl, by decide +kernel⟩⟩
theorem flX4_18 : FL RX4 18 4 5 := ⟨RX4, TX4, 7, rfl, by decide, mT1 146 rfl rfl, rfl⟩
theorem fpX4_18 : FP RX4 18 4 5 .int := ⟨flX4_18, fun C T N h => by cases h; exact ⟨rfl, by decide +kernel⟩⟩
theorem flX4_21 : FL RX4 21 4 6 := ⟨RX4, TX4, 7, rfl, by decide, mT1 147 rfl rfl, rfl⟩
theorem fpX4_21 : FP RX4 21 4 6 .int := ⟨flX4_21, fun C T N h => by cases h; exact ⟨rfl, by decide +kernel⟩⟩
theorem flX8_18 : FL RX8 18 8 0 := ⟨RX8, TX8, 3, rfl, by decide, mT1 170 rfl rfl, rfl⟩
theorem flX8_9 : FL RX8 9 8 1 := ⟨RX8, TX8, 3, rfl, by decide, mT1 171 rfl rfl, rfl⟩
theorem flX8_15 : FL RX8 15 8 2 := ⟨RX8, TX8, 3, rfl, by decide, mT1 172 rfl rfl, rfl⟩
theorem flX0_32 : FL RX0 32 0 0 := ⟨RX0, TX0, 8, rfl, by decide, mT1 188 rfl rfl, rfl⟩
theorem flX0_36 : FL RX0 36 0 1 := ⟨RX0, TX0, 8, rfl, by decide, mT1 189 rfl rfl, rfl⟩
theorem flX0_11 : FL RX0 11 0 2 := ⟨RX0, TX0, 8, rfl, by decide, mT1 190 rfl rfl, rfl⟩
theorem fpX0_11 : FP RX0 11 0 2 .int := ⟨flX0_11, fun C T N h => by cases h; exact ⟨rfl, by decide +kernel⟩⟩
theorem flX0_15 : FL RX0 15 0 3 := ⟨RX0, TX0, 8, rfl, by decide, mT1 191 rfl rfl, rfl⟩
theorem fpX0_15 : FP RX0 15 0 3 .int := ⟨flX0_15, fun C T N h => by cases h; exact ⟨rfl, by decide +kernel⟩⟩
theorem flX0_19 : FL RX0 19 0 4 := ⟨RX0, TX0, 8, rfl, by decide, mT1 192 rfl rfl, rfl⟩
theorem fpX0_19 : FP RX0 19 0 4 .int := ⟨flX0_19, fun C T N h => by cases h; exact ⟨rfl, by decide +kernel⟩⟩
theorem flX9_271 : FL RX9 271 0 4 := ⟨RX0, TX0, 8, rfl, by decide, mT1 193 rfl rfl, rfl⟩
theorem fpX9_271 : FP RX9 271 0 4 .int := ⟨flX9_271, fun C T N h => by cases h; exact ⟨rfl, by decide +kernel⟩⟩
theorem flX0_22 : FL RX0 22 0 5 := ⟨RX0, TX0, 8, rfl, by decide, mT1 194 rfl rfl, rfl⟩
theorem flX9_274 : FL RX9 274 0 5 := ⟨RX0, TX0, 8, rfl, by decide, mT1 195 rfl rfl, rfl⟩
theorem flX0_26 : FL RX0 26 0 6 := ⟨RX0, TX0, 8, rfl, by decide, mT1 196 rfl rfl, rfl⟩
theorem flX0_29 : FL RX0 29 0 7 := ⟨RX0, TX0, 8, rfl, by decide, mT1 197 rfl rfl, rfl⟩
theorem flX1_15 : FL RX1 15 1 0 := ⟨RX1, TX1, 3, rfl, by decide, mT1 221 rfl rfl, rfl⟩
theorem flX1_19 : FL RX1 19 1 1 := ⟨RX1, TX1, 3, rfl, by decide, mT1 222 rfl rfl, rfl⟩
theorem flX1_9 : FL RX1 9 1 2 := ⟨RX1, TX1, 3, rfl, by decide, mT1 223 rfl rfl, rfl⟩
theorem flX2_18 : FL RX2 18 2 0 := ⟨RX2, TX2, 4, rfl, by decide, mT1 237 rfl rfl, rfl⟩
theorem flX2_22 : FL RX2 22 2 1 := ⟨RX2, TX2, 4, rfl, by decide, mT1 238 rfl rfl, rfl⟩
theorem flX2_9 : FL RX2 9 2 2 := ⟨RX2, TX2, 4, rfl, by decide, mT1 239 rfl rfl, rfl⟩
theorem fpX2_9 : FP RX2 9 2 2 .long := ⟨flX2_9, fun C T N h => by cases h; exact ⟨rfl, by decide +kernel⟩⟩
theorem flX9_223 : FL RX9 223 2 2 := ⟨RX2, TX2, 4, rfl, by decide, mT2 0 rfl rfl, rfl⟩
theorem fpX9_223 : FP RX9 223 2 2 .long := ⟨flX9_223, fun C T N h => by cases h; exact ⟨rfl, by decide +kernel⟩⟩
theorem flX2_15 : FL RX2 15 2 3 := ⟨RX2, TX2, 4, rfl, by decide, mT2 1 rfl rfl, rfl⟩
theorem fpX2_15 : FP RX2 15 2 3 .long := ⟨flX2_15, fun C T N h => by cases h; exact ⟨rfl, by decide +kernel⟩⟩
theorem flX9_226 : FL RX9 226 2 3 := ⟨RX2, TX2, 4, rfl, by decide, mT2 2 rfl rfl, rfl⟩
theorem fpX9_226 : FP RX9 226 2 3 .long := ⟨flX9_226, fun C T N h => by cases h; exact ⟨rfl, by decide +kernel⟩⟩
theorem flX6_18 : FL RX6 18 6 0 := ⟨RX6, TX6, 3, rfl, by decide, mT2 18 rfl rfl, rfl⟩
theorem flX6_9 : FL RX6 9 6 1 := ⟨RX6, TX6, 3, rfl, by decide, mT2 19 rfl rfl, rfl⟩
theorem flX6_15 : FL RX6 15 6 2 := ⟨RX6, TX6, 3, rfl, by decide, mT2 20 rfl rfl, rfl⟩
theorem flX9_10 : FL RX9 10 9 0 := ⟨RX9, TX9, 14, rfl, by decide, mT2 28 rfl rfl, rfl⟩
theorem flX9_41 : FL RX9 41 9 1 := ⟨RX9, TX9, 14, rfl, by decide, mT2 29 rfl rfl, rfl⟩
theorem flX9_19 : FL RX9 19 9 2 := ⟨RX9, TX9, 14, rfl, by decide, mT2 30 rfl rfl, rfl⟩
theorem flX9_23 : FL RX9 23 9 3 := ⟨RX9, TX9, 14, rfl, by decide, mT2 31 rfl rfl, rfl⟩
theorem flX9_29 : FL RX9 29 9 4 := ⟨RX9, TX9, 14, rfl, by decide, mT2 32 rfl rfl, rfl⟩
theorem flX9_33 : FL RX9 33 9 5 := ⟨RX9, TX9, 14, rfl, by decide, mT2 33 rfl rfl, rfl⟩
theorem flX9_45 : FL RX9 45 9 6 := ⟨RX9, TX9, 14, rfl, by decide, mT2 34 rfl rfl, rfl⟩
theorem flX9_49 : FL RX9 49 9 7 := ⟨RX9, TX9, 14, rfl, by decide, mT2 35 rfl rfl, rfl⟩
theorem flX9_58 : FL RX9 58 9 8 := ⟨RX9, TX9, 14, rfl, by decide, mT2 36 rfl rfl, rfl⟩
theorem flX9_67 : FL RX9 67 9 9 := ⟨RX9, TX9, 14, rfl, by decide, mT2 37 rfl rfl, rfl⟩
theorem flX9_74 : FL RX9 74 9 10 := ⟨RX9, TX9, 14, rfl, by decide, mT2 38 rfl rfl, rfl⟩
theorem flX9_81 : FL RX9 81 9 11 := ⟨RX9, TX9, 14, rfl, by decide, mT2 39 rfl rfl, rfl⟩
theorem flX9_88 : FL RX9 88 9 12 := ⟨RX9, TX9, 14, rfl, by decide, mT2 40 rfl rfl, rfl⟩
theorem flX9_92 : FL RX9 92 9 13 := ⟨RX9, TX9, 14, rfl, by decide, mT2 41 rfl rfl, rfl⟩
theorem fpX9_92 : FP RX9 92 9 13 .long := ⟨flX9_92, fun C T N h => by cases h; exact ⟨rfl, by decide +kernel⟩⟩
theorem fjJ0_38 : Cond.fieldLink RJ0 38 "java/lang/String" "COMPACT_STRINGS" "Z" ∈ lwT := mT2 127 rfl rfl
theorem fjJ0_1053 : Cond.fieldLink RJ0 1053 "jdk/internal/util/Preconditions" "SIOOBE_FORMATTER" "Ljava/util/function/BiFunction;" ∈ lwT := mT2 143 rfl rfl
theorem fjJ2_44 : Cond.fieldLink RJ2 44 "java/lang/StringUTF16" "$assertionsDisabled" "Z" ∈ lwT := mT2 161 rfl rfl
theorem fjJ2_59 : Cond.fieldLink RJ2 59 "java/lang/StringUTF16" "HI_BYTE_SHIFT" "I" ∈ lwT := mT2 163 rfl rfl
theorem fjJ2_63 : Cond.fieldLink RJ2 63 "java/lang/StringUTF16" "LO_BYTE_SHIFT" "I" ∈ lwT := mT2 165 rfl rfl
theorem flX10_7 : FL RX10 7 10 0 := ⟨RX10, TX10, 30, rfl, by decide, mT4 87 rfl rfl, rfl⟩
theorem flX10_80 : FL RX10 80 10 1 := ⟨RX10, TX10, 30, rfl, by decide, mT4 88 rfl rfl, rfl⟩
theorem fpX10_80 : FP RX10 80 10 1 .int := ⟨flX10_80, fun C T N h => by cases h; exact ⟨rfl, by decide +kernel⟩⟩
theorem flX10_67 : FL RX10 67 10 2 := ⟨RX10, TX10, 30, rfl, by decide, mT4 89 rfl rfl, rfl⟩
theorem fpX10_67 : FP RX10 67 10 2 .int := ⟨flX10_67, fun C T N h => by cases h; exact ⟨rfl, by decide +kernel⟩⟩
theorem flX10_13 : FL RX10 13 10 3 := ⟨RX10, TX10, 30, rfl, by decide, mT4 90 rfl rfl, rfl⟩
theorem flX10_16 : FL RX10 16 10 4 := ⟨RX10, TX10, 30, rfl, by decide, mT4 91 rfl rfl, rfl⟩
theorem flX10_19 : FL RX10 19 10 5 := ⟨RX10, TX10, 30, rfl, by decide, mT4 92 rfl rfl, rfl⟩
theorem flX10_75 : FL RX10 75 10 6 := ⟨RX10, TX10, 30, rfl, by decide, mT4 93 rfl rfl, rfl⟩
theorem fpX10_75 : FP RX10 75 10 6 .int := ⟨flX10_75, fun C T N h => by cases h; exact ⟨rfl, by decide +kernel⟩⟩
theorem flX10_22 : FL RX10 22 10 7 := ⟨RX10, TX10, 30, rfl, by decide, mT4 94 rfl rfl, rfl⟩
theorem flX10_25 : FL RX10 25 10 8 := ⟨RX10, TX10, 30, rfl, by decide, mT4 95 rfl rfl, rfl⟩
theorem flX10_28 : FL RX10 28 10 9 := ⟨RX10, TX10, 30, rfl, by decide, mT4 96 rfl rfl, rfl⟩
theorem flX10_31 : FL RX10 31 10 10 := ⟨RX10, TX10, 30, rfl, by decide, mT4 97 rfl rfl, rfl⟩
theorem flX10_34 : FL RX10 34 10 11 := ⟨RX10, TX10, 30, rfl, by decide, mT4 98 rfl rfl, rfl⟩
theorem flX10_158 : FL RX10 158 10 12 := ⟨RX10, TX10, 30, rfl, by decide, mT4 99 rfl rfl, rfl⟩
theorem fpX10_158 : FP RX10 158 10 12 .int := ⟨flX10_158, fun C T N h => by cases h; exact ⟨rfl, by decide +kernel⟩⟩
theorem flX10_37 : FL RX10 37 10 13 := ⟨RX10, TX10, 30, rfl, by decide, mT4 100 rfl rfl, rfl⟩
theorem flX10_40 : FL RX10 40 10 14 := ⟨RX10, TX10, 30, rfl, by decide, mT4 101 rfl rfl, rfl⟩
theorem flX10_43 : FL RX10 43 10 15 := ⟨RX10, TX10, 30, rfl, by decide, mT4 102 rfl rfl, rfl⟩
theorem flX10_227 : FL RX10 227 10 16 := ⟨RX10, TX10, 30, rfl, by decide, mT4 103 rfl rfl, rfl⟩
theorem fpX10_227 : FP RX10 227 10 16 .long := ⟨flX10_227, fun C T N h => by cases h; exact ⟨rfl, by decide +kernel⟩⟩
theorem flX10_85 : FL RX10 85 10 17 := ⟨RX10, TX10, 30, rfl, by decide, mT4 104 rfl rfl, rfl⟩
theorem fpX10_85 : FP RX10 85 10 17 .int := ⟨flX10_85, fun C T N h => by cases h; exact ⟨rfl, by decide +kernel⟩⟩
theorem flX10_88 : FL RX10 88 10 18 := ⟨RX10, TX10, 30, rfl, by decide, mT4 105 rfl rfl, rfl⟩
theorem fpX10_88 : FP RX10 88 10 18 .int := ⟨flX10_88, fun C T N h => by cases h; exact ⟨rfl, by decide +kernel⟩⟩
theorem flX10_102 : FL RX10 102 10 19 := ⟨RX10, TX10, 30, rfl, by decide, mT4 106 rfl rfl, rfl⟩
theorem fpX10_102 : FP RX10 102 10 19 .int := ⟨flX10_102, fun C T N h => by cases h; exact ⟨rfl, by decide +kernel⟩⟩
theorem flX10_91 : FL RX10 91 10 20 := ⟨RX10, TX10, 30, rfl, by decide, mT4 107 rfl rfl, rfl⟩
theorem fpX10_91 : FP RX10 91 10 20 .long := ⟨flX10_91, fun C T N h => by cases h; exact ⟨rfl, by decide +kernel⟩⟩
theorem flX10_120 : FL RX10 120 10 21 := ⟨RX10, TX10, 30, rfl, by decide, mT4 108 rfl rfl, rfl⟩
theorem fpX10_120 : FP RX10 120 10 21 .int := ⟨flX10_120, fun C T N h => by cases h; exact ⟨rfl, by decide +kernel⟩⟩
theorem flX10_131 : FL RX10 131 10 22 := ⟨RX10, TX10, 30, rfl, by decide, mT4 109 rfl rfl, rfl⟩
theorem fpX10_131 : FP RX10 131 10 22 .int := ⟨flX10_131, fun C T N h => by cases h; exact ⟨rfl, by decide +kernel⟩⟩
theorem flX10_46 : FL RX10 46 10 23 := ⟨RX10, TX10, 30, rfl, by decide, mT4 110 rfl rfl, rfl⟩
theorem flX10_49 : FL RX10 49 10 24 := ⟨RX10, TX10, 30, rfl, by decide, mT4 111 rfl rfl, rfl⟩
theorem flX10_52 : FL RX10 52 10 25 := ⟨RX10, TX10, 30, rfl, by decide, mT4 112 rfl rfl, rfl⟩
theorem flX10_55 : FL RX10 55 10 26 := ⟨RX10, TX10, 30, rfl, by decide, mT4 113 rfl rfl, rfl⟩
theorem flX10_58 : FL RX10 58 10 27 := ⟨RX10, TX10, 30, rfl, by decide, mT4 114 rfl rfl, rfl⟩
theorem flX10_61 : FL RX10 61 10 28 := ⟨RX10, TX10, 30, rfl, by decide, mT4 115 rfl rfl, rfl⟩
theorem flX10_64 : FL RX10 64 10 29 := ⟨RX10, TX10, 30, rfl, by decide, mT4 116 rfl rfl, rfl⟩
theorem fjJ0_9 : Cond.fieldLink RJ0 9 "java/lang/String" "value" "[B" ∈ lwT := mT5 183 rfl rfl
theorem fjJ0_15 : Cond.fieldLink RJ0 15 "java/lang/String" "coder" "B" ∈ lwT := mT5 184 rfl rfl
theorem cwX9_init : Cond.code yX9_init cX9_init 2 none ∈ lwT := mT1 24 rfl rfl
theorem cwX7_init : Cond.code yX7_init cX7_init 1 none ∈ lwT := mT1 32 rfl rfl
theorem cwX5_init : Cond.code yX5_init cX5_init 1 none ∈ lwT := mT1 49 rfl rfl
theorem cwX3_init : Cond.code yX3_init cX3_init 1 none ∈ lwT := mT1 105 rfl rfl
theorem cwJ7_fill_53178 : Cond.code yJ7_fill_53178 cJ7_fill_53178 4 none ∈ lwT := mT1 109 rfl rfl
theorem cwX4_init : Cond.code yX4_init cX4_init 4 none ∈ lwT := mT1 139 rfl rfl
theorem cwX8_init : Cond.code yX8_init cX8_init 2 none ∈ lwT := mT1 168 rfl rfl
theorem cwX0_init : Cond.code yX0_init cX0_init 3 none ∈ lwT := mT1 185 rfl rfl
theorem cwX1_init : Cond.code yX1_init cX1_init 3 none ∈ lwT := mT1 219 rfl rfl
theorem cwX2_init : Cond.code yX2_init cX2_init 3 none ∈ lwT := mT1 235 rfl rfl
theorem cwX6_init : Cond.code yX6_init cX6_init 2 none ∈ lwT := mT2 16 rfl rfl
theorem cwX9_type : Cond.code yX9_type cX9_type 4 (some .int) ∈ lwT := mT2 74 rfl rfl
theorem cwX7_append : Cond.code yX7_append cX7_append 5 none ∈ lwT := mT2 78 rfl rfl
theorem cwX9_clear : Cond.code yX9_clear cX9_clear 2 (some .int) ∈ lwT := mT2 82 rfl rfl
theorem cwX9_town : Cond.code yX9_town cX9_town 3 (some .int) ∈ lwT := mT2 86 rfl rfl
theorem cwX4_readAll : Cond.code yX4_readAll cX4_readAll 3 (some .int) ∈ lwT := mT2 90 rfl rfl
theorem cwX5_empty : Cond.code yX5_empty cX5_empty 1 none ∈ lwT := mT2 94 rfl rfl
theorem cwX3_empty : Cond.code yX3_empty cX3_empty 1 none ∈ lwT := mT2 98 rfl rfl
theorem cwX3_unsee : Cond.code yX3_unsee cX3_unsee 1 none ∈ lwT := mT2 102 rfl rfl
theorem cwX4_nextToken : Cond.code yX4_nextToken cX4_nextToken 1 none ∈ lwT := mT2 106 rfl rfl
theorem cwX4_isLetter : Cond.code yX4_isLetter cX4_isLetter 1 (some .boolean) ∈ lwT := mT2 109 rfl rfl
theorem cwX4_takeWord : Cond.code yX4_takeWord cX4_takeWord 1 none ∈ lwT := mT2 113 rfl rfl
theorem cwX4_spells : Cond.code yX4_spells cX4_spells 3 (some .boolean) ∈ lwT := mT2 118 rfl rfl
theorem cwJ0_length_8abf5 : Cond.code yJ0_length_8abf5 cJ0_length_8abf5 1 (some .int) ∈ lwT := mT2 122 rfl rfl
theorem cwJ0_coder_7d493 : Cond.code yJ0_coder_7d493 cJ0_coder_7d493 1 (some .byte) ∈ lwT := mT2 126 rfl rfl
theorem cwJ0_charAt_5068e : Cond.code yJ0_charAt_5068e cJ0_charAt_5068e 2 (some .char) ∈ lwT := mT2 132 rfl rfl
theorem cwJ0_isLatin1_aae02 : Cond.code yJ0_isLatin1_aae02 cJ0_isLatin1_aae02 1 (some .boolean) ∈ lwT := mT2 136 rfl rfl
theorem cwJ1_charAt_3b067 : Cond.code yJ1_charAt_3b067 cJ1_charAt_3b067 2 (some .char) ∈ lwT := mT2 139 rfl rfl
theorem cwJ0_checkIndex_df160 : Cond.code yJ0_checkIndex_df160 cJ0_checkIndex_df160 2 none ∈ lwT := mT2 142 rfl rfl
theorem cwJ3_checkIndex_8e157 : Cond.code yJ3_checkIndex_8e157 cJ3_checkIndex_8e157 3 (some .int) ∈ lwT := mT2 147 rfl rfl
theorem cwJ2_charAt_3b067 : Cond.code yJ2_charAt_3b067 cJ2_charAt_3b067 2 (some .char) ∈ lwT := mT2 150 rfl rfl
theorem cwJ2_checkIndex_2214a : Cond.code yJ2_checkIndex_2214a cJ2_checkIndex_2214a 2 none ∈ lwT := mT2 153 rfl rfl
theorem cwJ2_length_9d52b : Cond.code yJ2_length_9d52b cJ2_length_9d52b 1 (some .int) ∈ lwT := mT2 156 rfl rfl
theorem cwJ2_getChar_3b067 : Cond.code yJ2_getChar_3b067 cJ2_getChar_3b067 2 (some .char) ∈ lwT := mT2 160 rfl rfl
theorem cwX4_isDigit : Cond.code yX4_isDigit cX4_isDigit 1 (some .boolean) ∈ lwT := mT2 173 rfl rfl
theorem cwX4_takeNumber : Cond.code yX4_takeNumber cX4_takeNumber 2 none ∈ lwT := mT2 177 rfl rfl
theorem cwJ9_min_7cf53 : Cond.code yJ9_min_7cf53 cJ9_min_7cf53 2 (some .int) ∈ lwT := mT2 180 rfl rfl
theorem cwX4_readPiece : Cond.code yX4_readPiece cX4_readPiece 4 (some .boolean) ∈ lwT := mT2 184 rfl rfl
theorem cwX4_number : Cond.code yX4_number cX4_number 2 (some .int) ∈ lwT := mT2 188 rfl rfl
theorem cwX4_stops : Cond.code yX4_stops cX4_stops 1 (some .boolean) ∈ lwT := mT2 192 rfl rfl
theorem cwX5_addPiece : Cond.code yX5_addPiece cX5_addPiece 4 none ∈ lwT := mT2 196 rfl rfl
theorem cwX4_readFamily : Cond.code yX4_readFamily cX4_readFamily 4 (some .boolean) ∈ lwT := mT2 200 rfl rfl
theorem cwX5_addFamily : Cond.code yX5_addFamily cX5_addFamily 4 none ∈ lwT := mT2 204 rfl rfl
theorem cwX4_readPaved : Cond.code yX4_readPaved cX4_readPaved 3 (some .boolean) ∈ lwT := mT2 208 rfl rfl
theorem cwX3_makeNoStone : Cond.code yX3_makeNoStone cX3_makeNoStone 2 none ∈ lwT := mT2 212 rfl rfl
theorem cwX4_readStone : Cond.code yX4_readStone cX4_readStone 2 (some .boolean) ∈ lwT := mT2 216 rfl rfl
theorem cwX3_makeStone : Cond.code yX3_makeStone cX3_makeStone 2 none ∈ lwT := mT2 220 rfl rfl
theorem cwX4_readFlood : Cond.code yX4_readFlood cX4_readFlood 3 (some .boolean) ∈ lwT := mT2 224 rfl rfl
theorem cwX5_become : Cond.code yX5_become cX5_become 2 none ∈ lwT := mT2 228 rfl rfl
theorem cwX3_become : Cond.code yX3_become cX3_become 2 none ∈ lwT := mT2 235 rfl rfl
theorem cwX8_startAnew : Cond.code yX8_startAnew cX8_startAnew 1 none ∈ lwT := mT3 0 rfl rfl
theorem cwX0_startAnew : Cond.code yX0_startAnew cX0_startAnew 1 none ∈ lwT := mT3 5 rfl rfl
theorem cwX9_piece : Cond.code yX9_piece cX9_piece 3 (some .int) ∈ lwT := mT3 9 rfl rfl
theorem cwX9_isPiece : Cond.code yX9_isPiece cX9_isPiece 2 (some .boolean) ∈ lwT := mT3 13 rfl rfl
theorem cwX9_family : Cond.code yX9_family cX9_family 3 (some .int) ∈ lwT := mT3 17 rfl rfl
theorem cwX9_isFamily : Cond.code yX9_isFamily cX9_isFamily 2 (some .boolean) ∈ lwT := mT3 21 rfl rfl
theorem cwX3_ownedBy : Cond.code yX3_ownedBy cX3_ownedBy 2 (some .int) ∈ lwT := mT3 25 rfl rfl
theorem cwX3_ownedIn : Cond.code yX3_ownedIn cX3_ownedIn 4 (some .int) ∈ lwT := mT3 28 rfl rfl
theorem cwJ6_bitCount_0f7a4 : Cond.code yJ6_bitCount_0f7a4 cJ6_bitCount_0f7a4 1 (some .int) ∈ lwT := mT3 31 rfl rfl
theorem cwX9_pave : Cond.code yX9_pave cX9_pave 4 (some .int) ∈ lwT := mT3 38 rfl rfl
theorem cwX3_isStone : Cond.code yX3_isStone cX3_isStone 2 (some .boolean) ∈ lwT := mT3 42 rfl rfl
theorem cwX9_free : Cond.code yX9_free cX9_free 3 (some .int) ∈ lwT := mT3 46 rfl rfl
theorem cwX9_stone : Cond.code yX9_stone cX9_stone 4 (some .int) ∈ lwT := mT3 50 rfl rfl
theorem cwX9_flood : Cond.code yX9_flood cX9_flood 4 (some .int) ∈ lwT := mT3 56 rfl rfl
theorem cwX9_way : Cond.code yX9_way cX9_way 2 (some .int) ∈ lwT := mT3 60 rfl rfl
theorem cwX9_wayNow : Cond.code yX9_wayNow cX9_wayNow 2 (some .int) ∈ lwT := mT3 64 rfl rfl
theorem cwX8_yards : Cond.code yX8_yards cX8_yards 4 (some .int) ∈ lwT := mT3 68 rfl rfl
theorem cwX8_measure : Cond.code yX8_measure cX8_measure 6 none ∈ lwT := mT3 72 rfl rfl
theorem cwX8_leg : Cond.code yX8_leg cX8_leg 2 (some .int) ∈ lwT := mT3 77 rfl rfl
theorem cwX8_shorten : Cond.code yX8_shorten cX8_shorten 4 (some .boolean) ∈ lwT := mT3 81 rfl rfl
theorem cwX9_orNone : Cond.code yX9_orNone cX9_orNone 1 (some .int) ∈ lwT := mT3 84 rfl rfl
theorem cwX9_place : Cond.code yX9_place cX9_place 3 (some .int) ∈ lwT := mT3 89 rfl rfl
theorem cwX8_placeOnWay : Cond.code yX8_placeOnWay cX8_placeOnWay 6 (some .int) ∈ lwT := mT3 93 rfl rfl
theorem cwX8_nextPlace : Cond.code yX8_nextPlace cX8_nextPlace 6 (some .int) ∈ lwT := mT3 97 rfl rfl
theorem cwX8_otherEnd : Cond.code yX8_otherEnd cX8_otherEnd 3 (some .int) ∈ lwT := mT3 101 rfl rfl
theorem cwX9_pole : Cond.code yX9_pole cX9_pole 4 (some .int) ∈ lwT := mT3 106 rfl rfl
theorem cwX5_widerThan : Cond.code yX5_widerThan cX5_widerThan 4 (some .int) ∈ lwT := mT3 110 rfl rfl
theorem cwX9_judge : Cond.code yX9_judge cX9_judge 7 (some .int) ∈ lwT := mT3 114 rfl rfl
theorem cwJ9_max_7cf53 : Cond.code yJ9_max_7cf53 cJ9_max_7cf53 2 (some .int) ∈ lwT := mT3 117 rfl rfl
theorem cwX9_one : Cond.code yX9_one cX9_one 3 (some .int) ∈ lwT := mT3 121 rfl rfl
theorem cwX0_seek : Cond.code yX0_seek cX0_seek 4 none ∈ lwT := mT3 125 rfl rfl
theorem cwX0_tryFamily : Cond.code yX0_tryFamily cX0_tryFamily 7 none ∈ lwT := mT3 129 rfl rfl
theorem cwX0_take : Cond.code yX0_take cX0_take 2 none ∈ lwT := mT3 133 rfl rfl
theorem cwX0_worthWith : Cond.code yX0_worthWith cX0_worthWith 4 (some .int) ∈ lwT := mT3 138 rfl rfl
theorem cwX0_costsOfNone : Cond.code yX0_costsOfNone cX0_costsOfNone 3 (some .int) ∈ lwT := mT3 145 rfl rfl
theorem cwX8_cost : Cond.code yX8_cost cX8_cost 3 (some .int) ∈ lwT := mT3 149 rfl rfl
theorem cwX0_tryPiece : Cond.code yX0_tryPiece cX0_tryPiece 6 none ∈ lwT := mT3 154 rfl rfl
theorem cwX9_chosen : Cond.code yX9_chosen cX9_chosen 2 (some .int) ∈ lwT := mT3 158 rfl rfl
theorem cwX9_all : Cond.code yX9_all cX9_all 2 (some .int) ∈ lwT := mT3 162 rfl rfl
theorem cwX9_change : Cond.code yX9_change cX9_change 1 (some .int) ∈ lwT := mT3 166 rfl rfl
theorem cwX1_firstOf : Cond.code yX1_firstOf cX1_firstOf 5 (some .int) ∈ lwT := mT3 170 rfl rfl
theorem cwX1_gains : Cond.code yX1_gains cX1_gains 7 (some .boolean) ∈ lwT := mT3 174 rfl rfl
theorem cwX9_rest : Cond.code yX9_rest cX9_rest 1 (some .int) ∈ lwT := mT3 180 rfl rfl
theorem cwX1_numberOf : Cond.code yX1_numberOf cX1_numberOf 4 (some .int) ∈ lwT := mT3 184 rfl rfl
theorem cwX1_exchange : Cond.code yX1_exchange cX1_exchange 4 none ∈ lwT := mT3 190 rfl rfl
theorem cwX9_match : Cond.code yX9_match cX9_match 6 (some .int) ∈ lwT := mT3 194 rfl rfl
theorem cwX9_always : Cond.code yX9_always cX9_always 3 (some .int) ∈ lwT := mT3 199 rfl rfl
theorem cwX8_neededBy : Cond.code yX8_neededBy cX8_neededBy 4 (some .int) ∈ lwT := mT3 203 rfl rfl
theorem cwX9_shut : Cond.code yX9_shut cX9_shut 3 (some .long) ∈ lwT := mT3 208 rfl rfl
theorem cwX2_reckon : Cond.code yX2_reckon cX2_reckon 7 none ∈ lwT := mT3 213 rfl rfl
theorem cwX2_chanceOf : Cond.code yX2_chanceOf cX2_chanceOf 6 (some .long) ∈ lwT := mT3 218 rfl rfl
theorem cwX2_reduce : Cond.code yX2_reduce cX2_reduce 2 none ∈ lwT := mT3 225 rfl rfl
theorem cwX2_divideBoth : Cond.code yX2_divideBoth cX2_divideBoth 2 none ∈ lwT := mT3 229 rfl rfl
theorem cwX9_saw : Cond.code yX9_saw cX9_saw 3 (some .int) ∈ lwT := mT3 233 rfl rfl
theorem cwX9_forget : Cond.code yX9_forget cX9_forget 2 (some .int) ∈ lwT := mT3 237 rfl rfl
theorem cwX9_fits : Cond.code yX9_fits cX9_fits 1 (some .int) ∈ lwT := mT4 2 rfl rfl
theorem cwX6_waysOf : Cond.code yX6_waysOf cX6_waysOf 5 (some .int) ∈ lwT := mT4 6 rfl rfl
theorem cwX6_addPiece : Cond.code yX6_addPiece cX6_addPiece 7 none ∈ lwT := mT4 12 rfl rfl
theorem cwX9_who : Cond.code yX9_who cX9_who 2 (some .int) ∈ lwT := mT4 17 rfl rfl
theorem cwX6_onlyOwner : Cond.code yX6_onlyOwner cX6_onlyOwner 5 (some .int) ∈ lwT := mT4 21 rfl rfl
theorem cwX9_mark : Cond.code yX9_mark cX9_mark 3 (some .int) ∈ lwT := mT4 26 rfl rfl
theorem cwX9_asFamily : Cond.code yX9_asFamily cX9_asFamily 2 (some .int) ∈ lwT := mT4 31 rfl rfl
theorem cwX9_asWidow : Cond.code yX9_asWidow cX9_asWidow 2 (some .int) ∈ lwT := mT4 35 rfl rfl
theorem cwX9_asMason : Cond.code yX9_asMason cX9_asMason 3 (some .int) ∈ lwT := mT4 40 rfl rfl
theorem cwX9_asHeir : Cond.code yX9_asHeir cX9_asHeir 2 (some .int) ∈ lwT := mT4 45 rfl rfl
theorem cwX9_asHired : Cond.code yX9_asHired cX9_asHired 2 (some .int) ∈ lwT := mT4 50 rfl rfl
theorem cwX5_yardsOf : Cond.code yX5_yardsOf cX5_yardsOf 4 (some .int) ∈ lwT := mT4 55 rfl rfl
theorem cwX9_asBachelor : Cond.code yX9_asBachelor cX9_asBachelor 2 (some .int) ∈ lwT := mT4 59 rfl rfl
theorem cwX9_keep : Cond.code yX9_keep cX9_keep 2 (some .int) ∈ lwT := mT4 64 rfl rfl
theorem cwX3_ownedPieces : Cond.code yX3_ownedPieces cX3_ownedPieces 3 (some .int) ∈ lwT := mT4 68 rfl rfl
theorem cwX9_back : Cond.code yX9_back cX9_back 2 (some .int) ∈ lwT := mT4 72 rfl rfl
theorem cwX9_count : Cond.code yX9_count cX9_count 2 (some .int) ∈ lwT := mT4 76 rfl rfl
theorem cwX9_trace : Cond.code yX9_trace cX9_trace 1 (some .long) ∈ lwT := mT4 80 rfl rfl
theorem cwX10_init : Cond.code yX10_init cX10_init 1 none ∈ lwT := mT4 85 rfl rfl
theorem cwX10_type : Cond.code yX10_type cX10_type 5 (some .int) ∈ lwT := mT4 181 rfl rfl
theorem cwX10_in : Cond.code yX10_in cX10_in 6 (some .boolean) ∈ lwT := mT4 185 rfl rfl
theorem cwX10_clear : Cond.code yX10_clear cX10_clear 2 (some .int) ∈ lwT := mT4 190 rfl rfl
theorem cwX10_town : Cond.code yX10_town cX10_town 3 (some .int) ∈ lwT := mT4 194 rfl rfl
theorem cwX10_takesAll : Cond.code yX10_takesAll cX10_takesAll 5 (some .int) ∈ lwT := mT4 198 rfl rfl
theorem cwX10_next : Cond.code yX10_next cX10_next 2 none ∈ lwT := mT4 202 rfl rfl
theorem cwX10_isLetter : Cond.code yX10_isLetter cX10_isLetter 1 (some .boolean) ∈ lwT := mT4 205 rfl rfl
theorem cwX10_isFigure : Cond.code yX10_isFigure cX10_isFigure 1 (some .boolean) ∈ lwT := mT4 208 rfl rfl
theorem cwX10_takesPiece : Cond.code yX10_takesPiece cX10_takesPiece 2 (some .boolean) ∈ lwT := mT4 219 rfl rfl
theorem cwX10_takes : Cond.code yX10_takes cX10_takes 3 (some .boolean) ∈ lwT := mT4 223 rfl rfl
theorem cwX10_stops : Cond.code yX10_stops cX10_stops 1 (some .boolean) ∈ lwT := mT4 227 rfl rfl
theorem cwX10_takesFamily : Cond.code yX10_takesFamily cX10_takesFamily 2 (some .boolean) ∈ lwT := mT4 232 rfl rfl
theorem cwX10_takesTold : Cond.code yX10_takesTold cX10_takesTold 4 (some .boolean) ∈ lwT := mT4 239 rfl rfl
theorem cwX10_piece : Cond.code yX10_piece cX10_piece 3 (some .int) ∈ lwT := mT5 3 rfl rfl
theorem cwX10_isPiece : Cond.code yX10_isPiece cX10_isPiece 2 (some .boolean) ∈ lwT := mT5 7 rfl rfl
theorem cwX10_ownerOf : Cond.code yX10_ownerOf cX10_ownerOf 2 (some .int) ∈ lwT := mT5 12 rfl rfl
theorem cwX10_isStone : Cond.code yX10_isStone cX10_isStone 2 (some .boolean) ∈ lwT := mT5 16 rfl rfl
theorem cwX10_family : Cond.code yX10_family cX10_family 3 (some .int) ∈ lwT := mT5 20 rfl rfl
theorem cwX10_isFamily : Cond.code yX10_isFamily cX10_isFamily 2 (some .boolean) ∈ lwT := mT5 24 rfl rfl
theorem cwX10_ownBy : Cond.code yX10_ownBy cX10_ownBy 5 (some .int) ∈ lwT := mT5 29 rfl rfl
theorem cwX10_many : Cond.code yX10_many cX10_many 3 (some .int) ∈ lwT := mT5 32 rfl rfl
theorem cwX10_pave : Cond.code yX10_pave cX10_pave 4 (some .int) ∈ lwT := mT5 36 rfl rfl
theorem cwX10_free : Cond.code yX10_free cX10_free 3 (some .int) ∈ lwT := mT5 40 rfl rfl
theorem cwX10_stone : Cond.code yX10_stone cX10_stone 4 (some .int) ∈ lwT := mT5 44 rfl rfl
theorem cwX10_flood : Cond.code yX10_flood cX10_flood 4 (some .int) ∈ lwT := mT5 48 rfl rfl
theorem cwX10_way : Cond.code yX10_way cX10_way 2 (some .int) ∈ lwT := mT5 53 rfl rfl
theorem cwX10_wayOf : Cond.code yX10_wayOf cX10_wayOf 3 (some .int) ∈ lwT := mT5 57 rfl rfl
theorem cwX10_measures : Cond.code yX10_measures cX10_measures 6 none ∈ lwT := mT5 61 rfl rfl
theorem cwX10_place : Cond.code yX10_place cX10_place 10 (some .int) ∈ lwT := mT5 66 rfl rfl
theorem cwX10_pole : Cond.code yX10_pole cX10_pole 5 (some .int) ∈ lwT := mT5 70 rfl rfl
theorem cwX10_judge : Cond.code yX10_judge cX10_judge 7 (some .int) ∈ lwT := mT5 75 rfl rfl
theorem cwX10_one : Cond.code yX10_one cX10_one 4 (some .int) ∈ lwT := mT5 80 rfl rfl
theorem cwX10_bestOfOne : Cond.code yX10_bestOfOne cX10_bestOfOne 12 (some .int) ∈ lwT := mT5 84 rfl rfl
theorem cwX10_tells : Cond.code yX10_tells cX10_tells 3 none ∈ lwT := mT5 88 rfl rfl
theorem cwX10_all : Cond.code yX10_all cX10_all 8 (some .int) ∈ lwT := mT5 92 rfl rfl
theorem cwX10_rowsOfAll : Cond.code yX10_rowsOfAll cX10_rowsOfAll 3 (some .int) ∈ lwT := mT5 96 rfl rfl
theorem cwX10_lays : Cond.code yX10_lays cX10_lays 4 none ∈ lwT := mT5 100 rfl rfl
theorem cwX10_change : Cond.code yX10_change cX10_change 1 (some .int) ∈ lwT := mT5 104 rfl rfl
theorem cwX10_changeBy : Cond.code yX10_changeBy cX10_changeBy 9 (some .int) ∈ lwT := mT5 108 rfl rfl
theorem cwX10_costBy : Cond.code yX10_costBy cX10_costBy 4 (some .int) ∈ lwT := mT5 112 rfl rfl
theorem cwX10_isLess : Cond.code yX10_isLess cX10_isLess 2 (some .boolean) ∈ lwT := mT5 115 rfl rfl
theorem cwX10_rest : Cond.code yX10_rest cX10_rest 4 (some .int) ∈ lwT := mT5 119 rfl rfl
theorem cwX10_match : Cond.code yX10_match cX10_match 6 (some .int) ∈ lwT := mT5 123 rfl rfl
theorem cwX10_always : Cond.code yX10_always cX10_always 4 (some .int) ∈ lwT := mT5 127 rfl rfl
theorem cwX10_shut : Cond.code yX10_shut cX10_shut 14 (some .long) ∈ lwT := mT5 131 rfl rfl
theorem cwX10_saw : Cond.code yX10_saw cX10_saw 3 (some .int) ∈ lwT := mT5 135 rfl rfl
theorem cwX10_forget : Cond.code yX10_forget cX10_forget 2 (some .int) ∈ lwT := mT5 139 rfl rfl
theorem cwX10_fits : Cond.code yX10_fits cX10_fits 1 (some .int) ∈ lwT := mT5 143 rfl rfl
theorem cwX10_paves : Cond.code yX10_paves cX10_paves 7 (some .int) ∈ lwT := mT5 147 rfl rfl
theorem cwX10_who : Cond.code yX10_who cX10_who 4 (some .int) ∈ lwT := mT5 151 rfl rfl
theorem cwX10_mark : Cond.code yX10_mark cX10_mark 8 (some .int) ∈ lwT := mT5 155 rfl rfl
theorem cwX10_keep : Cond.code yX10_keep cX10_keep 4 (some .int) ∈ lwT := mT5 165 rfl rfl
theorem cwX10_owned : Cond.code yX10_owned cX10_owned 3 (some .int) ∈ lwT := mT5 169 rfl rfl
theorem cwX10_back : Cond.code yX10_back cX10_back 4 (some .int) ∈ lwT := mT5 173 rfl rfl
theorem cwX10_count : Cond.code yX10_count cX10_count 2 (some .int) ∈ lwT := mT5 177 rfl rfl
theorem cwX10_trace : Cond.code yX10_trace cX10_trace 1 (some .long) ∈ lwT := mT5 181 rfl rfl
theorem csX3_28 : CSt RX3 28 yJ7_fill_53178 cJ7_fill_53178 4 none 2 := ⟨cwJ7_fill_53178, mT1 107 rfl rfl, mT1 108 rfl rfl, mT1 5 rfl rfl, by decide +kernel, by decide +kernel, by decide +kernel, by decide⟩
theorem cvL_15 : CV RL 15 yX9_type cX9_type 4 (some .int) 2 9 := ⟨cwX9_type, mT2 71 rfl rfl, mT2 72 rfl rfl, mT2 73 rfl rfl, mT1 1 rfl rfl, by decide +kernel, by decide +kernel, by decide +kernel, by decide, TX9, 14, rfl⟩
theorem cvX9_100 : CV RX9 100 yX7_append cX7_append 5 none 2 7 := ⟨cwX7_append, mT2 75 rfl rfl, mT2 76 rfl rfl, mT2 77 rfl rfl, mT1 2 rfl rfl, by decide +kernel, by decide +kernel, by decide +kernel, by decide, TX7, 2, rfl⟩
theorem cvL_20 : CV RL 20 yX9_clear cX9_clear 2 (some .int) 0 9 := ⟨cwX9_clear, mT2 79 rfl rfl, mT2 80 rfl rfl, mT2 81 rfl rfl, mT1 1 rfl rfl, by decide +kernel, by decide +kernel, by decide +kernel, by decide, TX9, 14, rfl⟩
theorem cvL_25 : CV RL 25 yX9_town cX9_town 3 (some .int) 0 9 := ⟨cwX9_town, mT2 83 rfl rfl, mT2 84 rfl rfl, mT2 85 rfl rfl, mT1 1 rfl rfl, by decide +kernel, by decide +kernel, by decide +kernel, by decide, TX9, 14, rfl⟩
theorem cvX9_104 : CV RX9 104 yX4_readAll cX4_readAll 3 (some .int) 0 4 := ⟨cwX4_readAll, mT2 87 rfl rfl, mT2 88 rfl rfl, mT2 89 rfl rfl, mT1 6 rfl rfl, by decide +kernel, by decide +kernel, by decide +kernel, by decide, TX4, 7, rfl⟩
theorem cvX4_36 : CV RX4 36 yX5_empty cX5_empty 1 none 0 5 := ⟨cwX5_empty, mT2 91 rfl rfl, mT2 92 rfl rfl, mT2 93 rfl rfl, mT1 3 rfl rfl, by decide +kernel, by decide +kernel, by decide +kernel, by decide, TX5, 8, rfl⟩
theorem cvX4_41 : CV RX4 41 yX3_empty cX3_empty 1 none 0 3 := ⟨cwX3_empty, mT2 95 rfl rfl, mT2 96 rfl rfl, mT2 97 rfl rfl, mT1 4 rfl rfl, by decide +kernel, by decide +kernel, by decide +kernel, by decide, TX3, 5, rfl⟩
theorem cvX3_34 : CV RX3 34 yX3_unsee cX3_unsee 1 none 0 3 := ⟨cwX3_unsee, mT2 99 rfl rfl, mT2 100 rfl rfl, mT2 101 rfl rfl, mT1 4 rfl rfl, by decide +kernel, by decide +kernel, by decide +kernel, by decide, TX3, 5, rfl⟩
theorem cvX4_44 : CV RX4 44 yX4_nextToken cX4_nextToken 1 none 0 4 := ⟨cwX4_nextToken, mT2 103 rfl rfl, mT2 105 rfl rfl, mTp1 (n := _) 0 rfl, mT1 6 rfl rfl, by decide +kernel, by decide +kernel, by decide +kernel, by decide, TX4, 7, rfl⟩
theorem csX4_106 : CSt RX4 106 yX4_isLetter cX4_isLetter 1 (some .boolean) 1 := ⟨cwX4_isLetter, mT2 107 rfl rfl, mT2 108 rfl rfl, mT1 6 rfl rfl, by decide +kernel, by decide +kernel, by decide +kernel, by decide⟩
theorem cvX4_110 : CV RX4 110 yX4_takeWord cX4_takeWord 1 none 0 4 := ⟨cwX4_takeWord, mT2 110 rfl rfl, mT2 112 rfl rfl, mTp1 (n := _) 1 rfl, mT1 6 rfl rfl, by decide +kernel, by decide +kernel, by decide +kernel, by decide, TX4, 7, rfl⟩
theorem cvX4_121 : CV RX4 121 yX4_spells cX4_spells 3 (some .boolean) 1 4 := ⟨cwX4_spells, mT2 115 rfl rfl, mT2 117 rfl rfl, mTp1 (n := _) 2 rfl, mT1 6 rfl rfl, by decide +kernel, by decide +kernel, by decide +kernel, by decide, TX4, 7, rfl⟩
theorem cjX4_139 : CVj RX4 139 yJ0_length_8abf5 cJ0_length_8abf5 1 (some .int) 0 := ⟨cwJ0_length_8abf5, mT2 119 rfl rfl, mT2 120 rfl rfl, mT2 121 rfl rfl, mT1 13 rfl rfl, by decide +kernel, by decide +kernel, by decide +kernel, by decide⟩
theorem cjJ0_335 : CVj RJ0 335 yJ0_coder_7d493 cJ0_coder_7d493 1 (some .byte) 0 := ⟨cwJ0_coder_7d493, mT2 123 rfl rfl, mT2 124 rfl rfl, mT2 125 rfl rfl, mT1 13 rfl rfl, by decide +kernel, by decide +kernel, by decide +kernel, by decide⟩
theorem cjX4_144 : CVj RX4 144 yJ0_charAt_5068e cJ0_charAt_5068e 2 (some .char) 1 := ⟨cwJ0_charAt_5068e, mT2 129 rfl rfl, mT2 130 rfl rfl, mT2 131 rfl rfl, mT1 13 rfl rfl, by decide +kernel, by decide +kernel, by decide +kernel, by decide⟩
theorem cjJ0_492 : CVj RJ0 492 yJ0_isLatin1_aae02 cJ0_isLatin1_aae02 1 (some .boolean) 0 := ⟨cwJ0_isLatin1_aae02, mT2 133 rfl rfl, mT2 134 rfl rfl, mT2 135 rfl rfl, mT1 13 rfl rfl, by decide +kernel, by decide +kernel, by decide +kernel, by decide⟩
theorem csJ0_495 : CSt RJ0 495 yJ1_charAt_3b067 cJ1_charAt_3b067 2 (some .char) 2 := ⟨cwJ1_charAt_3b067, mT2 137 rfl rfl, mT2 138 rfl rfl, mT1 14 rfl rfl, by decide +kernel, by decide +kernel, by decide +kernel, by decide⟩
theorem csJ1_9 : CSt RJ1 9 yJ0_checkIndex_df160 cJ0_checkIndex_df160 2 none 2 := ⟨cwJ0_checkIndex_df160, mT2 140 rfl rfl, mT2 141 rfl rfl, mT1 13 rfl rfl, by decide +kernel, by decide +kernel, by decide +kernel, by decide⟩
theorem csJ0_1059 : CSt RJ0 1059 yJ3_checkIndex_8e157 cJ3_checkIndex_8e157 3 (some .int) 3 := ⟨cwJ3_checkIndex_8e157, mT2 145 rfl rfl, mT2 146 rfl rfl, mT1 15 rfl rfl, by decide +kernel, by decide +kernel, by decide +kernel, by decide⟩
theorem csJ0_498 : CSt RJ0 498 yJ2_charAt_3b067 cJ2_charAt_3b067 2 (some .char) 2 := ⟨cwJ2_charAt_3b067, mT2 148 rfl rfl, mT2 149 rfl rfl, mT1 16 rfl rfl, by decide +kernel, by decide +kernel, by decide +kernel, by decide⟩
theorem csJ2_67 : CSt RJ2 67 yJ2_checkIndex_2214a cJ2_checkIndex_2214a 2 none 2 := ⟨cwJ2_checkIndex_2214a, mT2 151 rfl rfl, mT2 152 rfl rfl, mT1 16 rfl rfl, by decide +kernel, by decide +kernel, by decide +kernel, by decide⟩
theorem csJ2_48 : CSt RJ2 48 yJ2_length_9d52b cJ2_length_9d52b 1 (some .int) 1 := ⟨cwJ2_length_9d52b, mT2 154 rfl rfl, mT2 155 rfl rfl, mT1 16 rfl rfl, by decide +kernel, by decide +kernel, by decide +kernel, by decide⟩
theorem csJ2_414 : CSt RJ2 414 yJ0_checkIndex_df160 cJ0_checkIndex_df160 2 none 2 := ⟨cwJ0_checkIndex_df160, mT2 157 rfl rfl, mT2 141 rfl rfl, mT1 13 rfl rfl, by decide +kernel, by decide +kernel, by decide +kernel, by decide⟩
theorem csJ2_71 : CSt RJ2 71 yJ2_getChar_3b067 cJ2_getChar_3b067 2 (some .char) 2 := ⟨cwJ2_getChar_3b067, mT2 158 rfl rfl, mT2 159 rfl rfl, mT1 16 rfl rfl, by decide +kernel, by decide +kernel, by decide +kernel, by decide⟩
theorem csX4_113 : CSt RX4 113 yX4_isDigit cX4_isDigit 1 (some .boolean) 1 := ⟨cwX4_isDigit, mT2 171 rfl rfl, mT2 172 rfl rfl, mT1 6 rfl rfl, by decide +kernel, by decide +kernel, by decide +kernel, by decide⟩
theorem cvX4_116 : CV RX4 116 yX4_takeNumber cX4_takeNumber 2 none 0 4 := ⟨cwX4_takeNumber, mT2 174 rfl rfl, mT2 176 rfl rfl, mTp1 (n := _) 3 rfl, mT1 6 rfl rfl, by decide +kernel, by decide +kernel, by decide +kernel, by decide, TX4, 7, rfl⟩
theorem mlX4_133 : Cond.methodLink RX4 133 Lib.Math.min.name ∈ lwT := mT2 178 rfl rfl
theorem cvX4_47 : CV RX4 47 yX4_readPiece cX4_readPiece 4 (some .boolean) 0 4 := ⟨cwX4_readPiece, mT2 181 rfl rfl, mT2 183 rfl rfl, mTp1 (n := _) 4 rfl, mT1 6 rfl rfl, by decide +kernel, by decide +kernel, by decide +kernel, by decide, TX4, 7, rfl⟩
theorem cvX4_66 : CV RX4 66 yX4_number cX4_number 2 (some .int) 1 4 := ⟨cwX4_number, mT2 185 rfl rfl, mT2 187 rfl rfl, mTp1 (n := _) 5 rfl, mT1 6 rfl rfl, by decide +kernel, by decide +kernel, by decide +kernel, by decide, TX4, 7, rfl⟩
theorem cvX4_70 : CV RX4 70 yX4_stops cX4_stops 1 (some .boolean) 0 4 := ⟨cwX4_stops, mT2 189 rfl rfl, mT2 191 rfl rfl, mTp1 (n := _) 6 rfl, mT1 6 rfl rfl, by decide +kernel, by decide +kernel, by decide +kernel, by decide, TX4, 7, rfl⟩
theorem cvX4_73 : CV RX4 73 yX5_addPiece cX5_addPiece 4 none 3 5 := ⟨cwX5_addPiece, mT2 193 rfl rfl, mT2 194 rfl rfl, mT2 195 rfl rfl, mT1 3 rfl rfl, by decide +kernel, by decide +kernel, by decide +kernel, by decide, TX5, 8, rfl⟩
theorem cvX4_51 : CV RX4 51 yX4_readFamily cX4_readFamily 4 (some .boolean) 0 4 := ⟨cwX4_readFamily, mT2 197 rfl rfl, mT2 199 rfl rfl, mTp1 (n := _) 7 rfl, mT1 6 rfl rfl, by decide +kernel, by decide +kernel, by decide +kernel, by decide, TX4, 7, rfl⟩
theorem cvX4_80 : CV RX4 80 yX5_addFamily cX5_addFamily 4 none 3 5 := ⟨cwX5_addFamily, mT2 201 rfl rfl, mT2 202 rfl rfl, mT2 203 rfl rfl, mT1 3 rfl rfl, by decide +kernel, by decide +kernel, by decide +kernel, by decide, TX5, 8, rfl⟩
theorem cvX4_54 : CV RX4 54 yX4_readPaved cX4_readPaved 3 (some .boolean) 0 4 := ⟨cwX4_readPaved, mT2 205 rfl rfl, mT2 207 rfl rfl, mTp1 (n := _) 8 rfl, mT1 6 rfl rfl, by decide +kernel, by decide +kernel, by decide +kernel, by decide, TX4, 7, rfl⟩
theorem cvX4_83 : CV RX4 83 yX3_makeNoStone cX3_makeNoStone 2 none 1 3 := ⟨cwX3_makeNoStone, mT2 209 rfl rfl, mT2 210 rfl rfl, mT2 211 rfl rfl, mT1 4 rfl rfl, by decide +kernel, by decide +kernel, by decide +kernel, by decide, TX3, 5, rfl⟩
theorem cvX4_57 : CV RX4 57 yX4_readStone cX4_readStone 2 (some .boolean) 0 4 := ⟨cwX4_readStone, mT2 213 rfl rfl, mT2 215 rfl rfl, mTp1 (n := _) 9 rfl, mT1 6 rfl rfl, by decide +kernel, by decide +kernel, by decide +kernel, by decide, TX4, 7, rfl⟩
theorem cvX4_91 : CV RX4 91 yX3_makeStone cX3_makeStone 2 none 1 3 := ⟨cwX3_makeStone, mT2 217 rfl rfl, mT2 218 rfl rfl, mT2 219 rfl rfl, mT1 4 rfl rfl, by decide +kernel, by decide +kernel, by decide +kernel, by decide, TX3, 5, rfl⟩
theorem cvX4_60 : CV RX4 60 yX4_readFlood cX4_readFlood 3 (some .boolean) 0 4 := ⟨cwX4_readFlood, mT2 221 rfl rfl, mT2 223 rfl rfl, mTp1 (n := _) 10 rfl, mT1 6 rfl rfl, by decide +kernel, by decide +kernel, by decide +kernel, by decide, TX4, 7, rfl⟩
theorem cvX9_108 : CV RX9 108 yX5_become cX5_become 2 none 1 5 := ⟨cwX5_become, mT2 225 rfl rfl, mT2 226 rfl rfl, mT2 227 rfl rfl, mT1 3 rfl rfl, by decide +kernel, by decide +kernel, by decide +kernel, by decide, TX5, 8, rfl⟩
theorem mlX5_37 : Cond.methodLink RX5 37 arraycopyName ∈ lwT := mT2 229 rfl rfl
theorem cvX9_111 : CV RX9 111 yX3_become cX3_become 2 none 1 3 := ⟨cwX3_become, mT2 232 rfl rfl, mT2 233 rfl rfl, mT2 234 rfl rfl, mT1 4 rfl rfl, by decide +kernel, by decide +kernel, by decide +kernel, by decide, TX3, 5, rfl⟩
theorem mlX3_37 : Cond.methodLink RX3 37 arraycopyName ∈ lwT := mT2 236 rfl rfl
theorem cvX9_114 : CV RX9 114 yX8_startAnew cX8_startAnew 1 none 0 8 := ⟨cwX8_startAnew, mT2 237 rfl rfl, mT2 238 rfl rfl, mT2 239 rfl rfl, mT1 7 rfl rfl, by decide +kernel, by decide +kernel, by decide +kernel, by decide, TX8, 3, rfl⟩
theorem csX8_22 : CSt RX8 22 yJ7_fill_53178 cJ7_fill_53178 4 none 2 := ⟨cwJ7_fill_53178, mT3 1 rfl rfl, mT1 108 rfl rfl, mT1 5 rfl rfl, by decide +kernel, by decide +kernel, by decide +kernel, by decide⟩
theorem cvX9_117 : CV RX9 117 yX0_startAnew cX0_startAnew 1 none 0 0 := ⟨cwX0_startAnew, mT3 2 rfl rfl, mT3 3 rfl rfl, mT3 4 rfl rfl, mT1 8 rfl rfl, by decide +kernel, by decide +kernel, by decide +kernel, by decide, TX0, 8, rfl⟩
theorem cvL_29 : CV RL 29 yX9_piece cX9_piece 3 (some .int) 2 9 := ⟨cwX9_piece, mT3 6 rfl rfl, mT3 7 rfl rfl, mT3 8 rfl rfl, mT1 1 rfl rfl, by decide +kernel, by decide +kernel, by decide +kernel, by decide, TX9, 14, rfl⟩
theorem cvX9_118 : CV RX9 118 yX9_isPiece cX9_isPiece 2 (some .boolean) 1 9 := ⟨cwX9_isPiece, mT3 10 rfl rfl, mT3 12 rfl rfl, mTp1 (n := _) 11 rfl, mT1 1 rfl rfl, by decide +kernel, by decide +kernel, by decide +kernel, by decide, TX9, 14, rfl⟩
theorem cvL_34 : CV RL 34 yX9_family cX9_family 3 (some .int) 2 9 := ⟨cwX9_family, mT3 14 rfl rfl, mT3 15 rfl rfl, mT3 16 rfl rfl, mT1 1 rfl rfl, by decide +kernel, by decide +kernel, by decide +kernel, by decide, TX9, 14, rfl⟩
theorem cvX9_141 : CV RX9 141 yX9_isFamily cX9_isFamily 2 (some .boolean) 1 9 := ⟨cwX9_isFamily, mT3 18 rfl rfl, mT3 20 rfl rfl, mTp1 (n := _) 12 rfl, mT1 1 rfl rfl, by decide +kernel, by decide +kernel, by decide +kernel, by decide, TX9, 14, rfl⟩
theorem cvX9_153 : CV RX9 153 yX3_ownedBy cX3_ownedBy 2 (some .int) 1 3 := ⟨cwX3_ownedBy, mT3 22 rfl rfl, mT3 23 rfl rfl, mT3 24 rfl rfl, mT1 4 rfl rfl, by decide +kernel, by decide +kernel, by decide +kernel, by decide, TX3, 5, rfl⟩
theorem csX3_43 : CSt RX3 43 yX3_ownedIn cX3_ownedIn 4 (some .int) 2 := ⟨cwX3_ownedIn, mT3 26 rfl rfl, mT3 27 rfl rfl, mT1 4 rfl rfl, by decide +kernel, by decide +kernel, by decide +kernel, by decide⟩
theorem csX9_157 : CSt RX9 157 yJ6_bitCount_0f7a4 cJ6_bitCount_0f7a4 1 (some .int) 1 := ⟨cwJ6_bitCount_0f7a4, mT3 29 rfl rfl, mT3 30 rfl rfl, mT1 19 rfl rfl, by decide +kernel, by decide +kernel, by decide +kernel, by decide⟩
theorem cvL_38 : CV RL 38 yX9_pave cX9_pave 4 (some .int) 2 9 := ⟨cwX9_pave, mT3 35 rfl rfl, mT3 36 rfl rfl, mT3 37 rfl rfl, mT1 1 rfl rfl, by decide +kernel, by decide +kernel, by decide +kernel, by decide, TX9, 14, rfl⟩
theorem cvX9_162 : CV RX9 162 yX3_isStone cX3_isStone 2 (some .boolean) 1 3 := ⟨cwX3_isStone, mT3 39 rfl rfl, mT3 40 rfl rfl, mT3 41 rfl rfl, mT1 4 rfl rfl, by decide +kernel, by decide +kernel, by decide +kernel, by decide, TX3, 5, rfl⟩
theorem cvL_42 : CV RL 42 yX9_free cX9_free 3 (some .int) 1 9 := ⟨cwX9_free, mT3 43 rfl rfl, mT3 44 rfl rfl, mT3 45 rfl rfl, mT1 1 rfl rfl, by decide +kernel, by decide +kernel, by decide +kernel, by decide, TX9, 14, rfl⟩
theorem cvL_47 : CV RL 47 yX9_stone cX9_stone 4 (some .int) 2 9 := ⟨cwX9_stone, mT3 47 rfl rfl, mT3 48 rfl rfl, mT3 49 rfl rfl, mT1 1 rfl rfl, by decide +kernel, by decide +kernel, by decide +kernel, by decide, TX9, 14, rfl⟩
theorem cvX9_165 : CV RX9 165 yX3_makeStone cX3_makeStone 2 none 1 3 := ⟨cwX3_makeStone, mT3 51 rfl rfl, mT2 218 rfl rfl, mT2 219 rfl rfl, mT1 4 rfl rfl, by decide +kernel, by decide +kernel, by decide +kernel, by decide, TX3, 5, rfl⟩
theorem cvX9_169 : CV RX9 169 yX3_makeNoStone cX3_makeNoStone 2 none 1 3 := ⟨cwX3_makeNoStone, mT3 52 rfl rfl, mT2 210 rfl rfl, mT2 211 rfl rfl, mT1 4 rfl rfl, by decide +kernel, by decide +kernel, by decide +kernel, by decide, TX3, 5, rfl⟩
theorem cvL_51 : CV RL 51 yX9_flood cX9_flood 4 (some .int) 2 9 := ⟨cwX9_flood, mT3 53 rfl rfl, mT3 54 rfl rfl, mT3 55 rfl rfl, mT1 1 rfl rfl, by decide +kernel, by decide +kernel, by decide +kernel, by decide, TX9, 14, rfl⟩
theorem cvL_55 : CV RL 55 yX9_way cX9_way 2 (some .int) 1 9 := ⟨cwX9_way, mT3 57 rfl rfl, mT3 58 rfl rfl, mT3 59 rfl rfl, mT1 1 rfl rfl, by decide +kernel, by decide +kernel, by decide +kernel, by decide, TX9, 14, rfl⟩
theorem cvX9_172 : CV RX9 172 yX9_wayNow cX9_wayNow 2 (some .int) 1 9 := ⟨cwX9_wayNow, mT3 61 rfl rfl, mT3 63 rfl rfl, mTp1 (n := _) 13 rfl, mT1 1 rfl rfl, by decide +kernel, by decide +kernel, by decide +kernel, by decide, TX9, 14, rfl⟩
theorem cvX9_185 : CV RX9 185 yX8_yards cX8_yards 4 (some .int) 2 8 := ⟨cwX8_yards, mT3 65 rfl rfl, mT3 66 rfl rfl, mT3 67 rfl rfl, mT1 7 rfl rfl, by decide +kernel, by decide +kernel, by decide +kernel, by decide, TX8, 3, rfl⟩
theorem cvX8_28 : CV RX8 28 yX8_measure cX8_measure 6 none 2 8 := ⟨cwX8_measure, mT3 69 rfl rfl, mT3 71 rfl rfl, mTp1 (n := _) 14 rfl, mT1 7 rfl rfl, by decide +kernel, by decide +kernel, by decide +kernel, by decide, TX8, 3, rfl⟩
theorem cvX8_62 : CV RX8 62 yX8_leg cX8_leg 2 (some .int) 1 8 := ⟨cwX8_leg, mT3 74 rfl rfl, mT3 76 rfl rfl, mTp1 (n := _) 15 rfl, mT1 7 rfl rfl, by decide +kernel, by decide +kernel, by decide +kernel, by decide, TX8, 3, rfl⟩
theorem cvX8_66 : CV RX8 66 yX8_shorten cX8_shorten 4 (some .boolean) 3 8 := ⟨cwX8_shorten, mT3 78 rfl rfl, mT3 80 rfl rfl, mTp2 (n := _) 0 rfl, mT1 7 rfl rfl, by decide +kernel, by decide +kernel, by decide +kernel, by decide, TX8, 3, rfl⟩
theorem csX9_175 : CSt RX9 175 yX9_orNone cX9_orNone 1 (some .int) 1 := ⟨cwX9_orNone, mT3 82 rfl rfl, mT3 83 rfl rfl, mT1 1 rfl rfl, by decide +kernel, by decide +kernel, by decide +kernel, by decide⟩
theorem cvL_59 : CV RL 59 yX9_place cX9_place 3 (some .int) 2 9 := ⟨cwX9_place, mT3 86 rfl rfl, mT3 87 rfl rfl, mT3 88 rfl rfl, mT1 1 rfl rfl, by decide +kernel, by decide +kernel, by decide +kernel, by decide, TX9, 14, rfl⟩
theorem cvX9_178 : CV RX9 178 yX8_placeOnWay cX8_placeOnWay 6 (some .int) 3 8 := ⟨cwX8_placeOnWay, mT3 90 rfl rfl, mT3 91 rfl rfl, mT3 92 rfl rfl, mT1 7 rfl rfl, by decide +kernel, by decide +kernel, by decide +kernel, by decide, TX8, 3, rfl⟩
theorem cvX8_50 : CV RX8 50 yX8_nextPlace cX8_nextPlace 6 (some .int) 2 8 := ⟨cwX8_nextPlace, mT3 94 rfl rfl, mT3 96 rfl rfl, mTp2 (n := _) 1 rfl, mT1 7 rfl rfl, by decide +kernel, by decide +kernel, by decide +kernel, by decide, TX8, 3, rfl⟩
theorem cvX8_72 : CV RX8 72 yX8_otherEnd cX8_otherEnd 3 (some .int) 2 8 := ⟨cwX8_otherEnd, mT3 98 rfl rfl, mT3 100 rfl rfl, mTp2 (n := _) 2 rfl, mT1 7 rfl rfl, by decide +kernel, by decide +kernel, by decide +kernel, by decide, TX8, 3, rfl⟩
theorem mlX8_75 : Cond.methodLink RX8 75 Lib.Math.min.name ∈ lwT := mT3 102 rfl rfl
theorem cvL_63 : CV RL 63 yX9_pole cX9_pole 4 (some .int) 2 9 := ⟨cwX9_pole, mT3 103 rfl rfl, mT3 104 rfl rfl, mT3 105 rfl rfl, mT1 1 rfl rfl, by decide +kernel, by decide +kernel, by decide +kernel, by decide, TX9, 14, rfl⟩
theorem cvX9_182 : CV RX9 182 yX5_widerThan cX5_widerThan 4 (some .int) 1 5 := ⟨cwX5_widerThan, mT3 107 rfl rfl, mT3 108 rfl rfl, mT3 109 rfl rfl, mT1 3 rfl rfl, by decide +kernel, by decide +kernel, by decide +kernel, by decide, TX5, 8, rfl⟩
theorem cvL_67 : CV RL 67 yX9_judge cX9_judge 7 (some .int) 1 9 := ⟨cwX9_judge, mT3 111 rfl rfl, mT3 112 rfl rfl, mT3 113 rfl rfl, mT1 1 rfl rfl, by decide +kernel, by decide +kernel, by decide +kernel, by decide, TX9, 14, rfl⟩
theorem mlX9_191 : Cond.methodLink RX9 191 Lib.Math.max.name ∈ lwT := mT3 115 rfl rfl
theorem cvL_71 : CV RL 71 yX9_one cX9_one 3 (some .int) 2 9 := ⟨cwX9_one, mT3 118 rfl rfl, mT3 119 rfl rfl, mT3 120 rfl rfl, mT1 1 rfl rfl, by decide +kernel, by decide +kernel, by decide +kernel, by decide, TX9, 14, rfl⟩
theorem cvX9_197 : CV RX9 197 yX0_seek cX0_seek 4 none 2 0 := ⟨cwX0_seek, mT3 122 rfl rfl, mT3 123 rfl rfl, mT3 124 rfl rfl, mT1 8 rfl rfl, by decide +kernel, by decide +kernel, by decide +kernel, by decide, TX0, 8, rfl⟩
theorem cvX0_40 : CV RX0 40 yX0_tryFamily cX0_tryFamily 7 none 3 0 := ⟨cwX0_tryFamily, mT3 126 rfl rfl, mT3 128 rfl rfl, mTp2 (n := _) 3 rfl, mT1 8 rfl rfl, by decide +kernel, by decide +kernel, by decide +kernel, by decide, TX0, 8, rfl⟩
theorem cvX0_69 : CV RX0 69 yX0_take cX0_take 2 none 1 0 := ⟨cwX0_take, mT3 130 rfl rfl, mT3 132 rfl rfl, mTp2 (n := _) 4 rfl, mT1 8 rfl rfl, by decide +kernel, by decide +kernel, by decide +kernel, by decide, TX0, 8, rfl⟩
theorem mlX0_91 : Cond.methodLink RX0 91 arraycopyName ∈ lwT := mT3 134 rfl rfl
theorem cvX0_76 : CV RX0 76 yX0_worthWith cX0_worthWith 4 (some .int) 3 0 := ⟨cwX0_worthWith, mT3 135 rfl rfl, mT3 137 rfl rfl, mTp2 (n := _) 5 rfl, mT1 8 rfl rfl, by decide +kernel, by decide +kernel, by decide +kernel, by decide, TX0, 8, rfl⟩
theorem cvX0_80 : CV RX0 80 yX8_yards cX8_yards 4 (some .int) 2 8 := ⟨cwX8_yards, mT3 139 rfl rfl, mT3 66 rfl rfl, mT3 67 rfl rfl, mT1 7 rfl rfl, by decide +kernel, by decide +kernel, by decide +kernel, by decide, TX8, 3, rfl⟩
theorem mlX0_83 : Cond.methodLink RX0 83 Lib.Math.max.name ∈ lwT := mT3 140 rfl rfl
theorem csX0_44 : CSt RX0 44 yJ7_fill_53178 cJ7_fill_53178 4 none 2 := ⟨cwJ7_fill_53178, mT3 141 rfl rfl, mT1 108 rfl rfl, mT1 5 rfl rfl, by decide +kernel, by decide +kernel, by decide +kernel, by decide⟩
theorem cvX0_50 : CV RX0 50 yX0_costsOfNone cX0_costsOfNone 3 (some .int) 0 0 := ⟨cwX0_costsOfNone, mT3 142 rfl rfl, mT3 144 rfl rfl, mTp2 (n := _) 6 rfl, mT1 8 rfl rfl, by decide +kernel, by decide +kernel, by decide +kernel, by decide, TX0, 8, rfl⟩
theorem cvX0_63 : CV RX0 63 yX8_cost cX8_cost 3 (some .int) 2 8 := ⟨cwX8_cost, mT3 146 rfl rfl, mT3 147 rfl rfl, mT3 148 rfl rfl, mT1 7 rfl rfl, by decide +kernel, by decide +kernel, by decide +kernel, by decide, TX8, 3, rfl⟩
theorem cvX8_37 : CV RX8 37 yX8_yards cX8_yards 4 (some .int) 2 8 := ⟨cwX8_yards, mT3 150 rfl rfl, mT3 66 rfl rfl, mT3 67 rfl rfl, mT1 7 rfl rfl, by decide +kernel, by decide +kernel, by decide +kernel, by decide, TX8, 3, rfl⟩
theorem cvX0_54 : CV RX0 54 yX0_tryPiece cX0_tryPiece 6 none 2 0 := ⟨cwX0_tryPiece, mT3 151 rfl rfl, mT3 153 rfl rfl, mTp2 (n := _) 7 rfl, mT1 8 rfl rfl, by decide +kernel, by decide +kernel, by decide +kernel, by decide, TX0, 8, rfl⟩
theorem cvX9_201 : CV RX9 201 yX9_chosen cX9_chosen 2 (some .int) 1 9 := ⟨cwX9_chosen, mT3 155 rfl rfl, mT3 157 rfl rfl, mTp2 (n := _) 8 rfl, mT1 1 rfl rfl, by decide +kernel, by decide +kernel, by decide +kernel, by decide, TX9, 14, rfl⟩
theorem cvL_75 : CV RL 75 yX9_all cX9_all 2 (some .int) 1 9 := ⟨cwX9_all, mT3 159 rfl rfl, mT3 160 rfl rfl, mT3 161 rfl rfl, mT1 1 rfl rfl, by decide +kernel, by decide +kernel, by decide +kernel, by decide, TX9, 14, rfl⟩
theorem cvL_79 : CV RL 79 yX9_change cX9_change 1 (some .int) 0 9 := ⟨cwX9_change, mT3 163 rfl rfl, mT3 164 rfl rfl, mT3 165 rfl rfl, mT1 1 rfl rfl, by decide +kernel, by decide +kernel, by decide +kernel, by decide, TX9, 14, rfl⟩
theorem cvX9_204 : CV RX9 204 yX1_firstOf cX1_firstOf 5 (some .int) 1 1 := ⟨cwX1_firstOf, mT3 167 rfl rfl, mT3 168 rfl rfl, mT3 169 rfl rfl, mT1 9 rfl rfl, by decide +kernel, by decide +kernel, by decide +kernel, by decide, TX1, 3, rfl⟩
theorem cvX1_29 : CV RX1 29 yX1_gains cX1_gains 7 (some .boolean) 3 1 := ⟨cwX1_gains, mT3 171 rfl rfl, mT3 173 rfl rfl, mTp2 (n := _) 9 rfl, mT1 9 rfl rfl, by decide +kernel, by decide +kernel, by decide +kernel, by decide, TX1, 3, rfl⟩
theorem csX1_47 : CSt RX1 47 yX3_ownedIn cX3_ownedIn 4 (some .int) 2 := ⟨cwX3_ownedIn, mT3 175 rfl rfl, mT3 27 rfl rfl, mT1 4 rfl rfl, by decide +kernel, by decide +kernel, by decide +kernel, by decide⟩
theorem cvX1_53 : CV RX1 53 yX8_yards cX8_yards 4 (some .int) 2 8 := ⟨cwX8_yards, mT3 176 rfl rfl, mT3 66 rfl rfl, mT3 67 rfl rfl, mT1 7 rfl rfl, by decide +kernel, by decide +kernel, by decide +kernel, by decide, TX8, 3, rfl⟩
theorem cvL_83 : CV RL 83 yX9_rest cX9_rest 1 (some .int) 0 9 := ⟨cwX9_rest, mT3 177 rfl rfl, mT3 178 rfl rfl, mT3 179 rfl rfl, mT1 1 rfl rfl, by decide +kernel, by decide +kernel, by decide +kernel, by decide, TX9, 14, rfl⟩
theorem cvX9_208 : CV RX9 208 yX1_numberOf cX1_numberOf 4 (some .int) 1 1 := ⟨cwX1_numberOf, mT3 181 rfl rfl, mT3 182 rfl rfl, mT3 183 rfl rfl, mT1 9 rfl rfl, by decide +kernel, by decide +kernel, by decide +kernel, by decide, TX1, 3, rfl⟩
theorem mlX1_33 : Cond.methodLink RX1 33 arraycopyName ∈ lwT := mT3 185 rfl rfl
theorem cvX1_39 : CV RX1 39 yX1_firstOf cX1_firstOf 5 (some .int) 1 1 := ⟨cwX1_firstOf, mT3 186 rfl rfl, mT3 168 rfl rfl, mT3 169 rfl rfl, mT1 9 rfl rfl, by decide +kernel, by decide +kernel, by decide +kernel, by decide, TX1, 3, rfl⟩
theorem cvX1_43 : CV RX1 43 yX1_exchange cX1_exchange 4 none 2 1 := ⟨cwX1_exchange, mT3 187 rfl rfl, mT3 189 rfl rfl, mTp2 (n := _) 10 rfl, mT1 9 rfl rfl, by decide +kernel, by decide +kernel, by decide +kernel, by decide, TX1, 3, rfl⟩
theorem cvL_87 : CV RL 87 yX9_match cX9_match 6 (some .int) 2 9 := ⟨cwX9_match, mT3 191 rfl rfl, mT3 192 rfl rfl, mT3 193 rfl rfl, mT1 1 rfl rfl, by decide +kernel, by decide +kernel, by decide +kernel, by decide, TX9, 14, rfl⟩
theorem cvX9_211 : CV RX9 211 yX8_cost cX8_cost 3 (some .int) 2 8 := ⟨cwX8_cost, mT3 195 rfl rfl, mT3 147 rfl rfl, mT3 148 rfl rfl, mT1 7 rfl rfl, by decide +kernel, by decide +kernel, by decide +kernel, by decide, TX8, 3, rfl⟩
theorem cvL_91 : CV RL 91 yX9_always cX9_always 3 (some .int) 0 9 := ⟨cwX9_always, mT3 196 rfl rfl, mT3 197 rfl rfl, mT3 198 rfl rfl, mT1 1 rfl rfl, by decide +kernel, by decide +kernel, by decide +kernel, by decide, TX9, 14, rfl⟩
theorem cvX9_214 : CV RX9 214 yX8_neededBy cX8_neededBy 4 (some .int) 1 8 := ⟨cwX8_neededBy, mT3 200 rfl rfl, mT3 201 rfl rfl, mT3 202 rfl rfl, mT1 7 rfl rfl, by decide +kernel, by decide +kernel, by decide +kernel, by decide, TX8, 3, rfl⟩
theorem cvL_95 : CV RL 95 yX9_shut cX9_shut 3 (some .long) 2 9 := ⟨cwX9_shut, mT3 205 rfl rfl, mT3 206 rfl rfl, mT3 207 rfl rfl, mT1 1 rfl rfl, by decide +kernel, by decide +kernel, by decide +kernel, by decide, TX9, 14, rfl⟩
theorem cvX9_219 : CV RX9 219 yX2_reckon cX2_reckon 7 none 2 2 := ⟨cwX2_reckon, mT3 210 rfl rfl, mT3 211 rfl rfl, mT3 212 rfl rfl, mT1 10 rfl rfl, by decide +kernel, by decide +kernel, by decide +kernel, by decide, TX2, 4, rfl⟩
theorem cvX2_26 : CV RX2 26 yX3_ownedBy cX3_ownedBy 2 (some .int) 1 3 := ⟨cwX3_ownedBy, mT3 214 rfl rfl, mT3 23 rfl rfl, mT3 24 rfl rfl, mT1 4 rfl rfl, by decide +kernel, by decide +kernel, by decide +kernel, by decide, TX3, 5, rfl⟩
theorem cvX2_42 : CV RX2 42 yX2_chanceOf cX2_chanceOf 6 (some .long) 2 2 := ⟨cwX2_chanceOf, mT3 215 rfl rfl, mT3 217 rfl rfl, mTp2 (n := _) 11 rfl, mT1 10 rfl rfl, by decide +kernel, by decide +kernel, by decide +kernel, by decide, TX2, 4, rfl⟩
theorem cvX2_46 : CV RX2 46 yX8_yards cX8_yards 4 (some .int) 2 8 := ⟨cwX8_yards, mT3 219 rfl rfl, mT3 66 rfl rfl, mT3 67 rfl rfl, mT1 7 rfl rfl, by decide +kernel, by decide +kernel, by decide +kernel, by decide, TX8, 3, rfl⟩
theorem cvX2_55 : CV RX2 55 yX2_reduce cX2_reduce 2 none 0 2 := ⟨cwX2_reduce, mT3 222 rfl rfl, mT3 224 rfl rfl, mTp2 (n := _) 12 rfl, mT1 10 rfl rfl, by decide +kernel, by decide +kernel, by decide +kernel, by decide, TX2, 4, rfl⟩
theorem cvX2_58 : CV RX2 58 yX2_divideBoth cX2_divideBoth 2 none 1 2 := ⟨cwX2_divideBoth, mT3 226 rfl rfl, mT3 228 rfl rfl, mTp2 (n := _) 13 rfl, mT1 10 rfl rfl, by decide +kernel, by decide +kernel, by decide +kernel, by decide, TX2, 4, rfl⟩
theorem cvL_100 : CV RL 100 yX9_saw cX9_saw 3 (some .int) 2 9 := ⟨cwX9_saw, mT3 230 rfl rfl, mT3 231 rfl rfl, mT3 232 rfl rfl, mT1 1 rfl rfl, by decide +kernel, by decide +kernel, by decide +kernel, by decide, TX9, 14, rfl⟩
theorem cvL_104 : CV RL 104 yX9_forget cX9_forget 2 (some .int) 0 9 := ⟨cwX9_forget, mT3 234 rfl rfl, mT3 235 rfl rfl, mT3 236 rfl rfl, mT1 1 rfl rfl, by decide +kernel, by decide +kernel, by decide +kernel, by decide, TX9, 14, rfl⟩
theorem cvX9_238 : CV RX9 238 yX3_unsee cX3_unsee 1 none 0 3 := ⟨cwX3_unsee, mT3 238 rfl rfl, mT2 100 rfl rfl, mT2 101 rfl rfl, mT1 4 rfl rfl, by decide +kernel, by decide +kernel, by decide +kernel, by decide, TX3, 5, rfl⟩
theorem cvL_108 : CV RL 108 yX9_fits cX9_fits 1 (some .int) 0 9 := ⟨cwX9_fits, mT3 239 rfl rfl, mT4 0 rfl rfl, mT4 1 rfl rfl, mT1 1 rfl rfl, by decide +kernel, by decide +kernel, by decide +kernel, by decide, TX9, 14, rfl⟩
theorem cvX9_241 : CV RX9 241 yX6_waysOf cX6_waysOf 5 (some .int) 3 6 := ⟨cwX6_waysOf, mT4 3 rfl rfl, mT4 4 rfl rfl, mT4 5 rfl rfl, mT1 11 rfl rfl, by decide +kernel, by decide +kernel, by decide +kernel, by decide, TX6, 3, rfl⟩
theorem csX6_22 : CSt RX6 22 yJ7_fill_53178 cJ7_fill_53178 4 none 2 := ⟨cwJ7_fill_53178, mT4 7 rfl rfl, mT1 108 rfl rfl, mT1 5 rfl rfl, by decide +kernel, by decide +kernel, by decide +kernel, by decide⟩
theorem cvX6_34 : CV RX6 34 yX3_isStone cX3_isStone 2 (some .boolean) 1 3 := ⟨cwX3_isStone, mT4 8 rfl rfl, mT3 40 rfl rfl, mT3 41 rfl rfl, mT1 4 rfl rfl, by decide +kernel, by decide +kernel, by decide +kernel, by decide, TX3, 5, rfl⟩
theorem cvX6_40 : CV RX6 40 yX6_addPiece cX6_addPiece 7 none 3 6 := ⟨cwX6_addPiece, mT4 9 rfl rfl, mT4 11 rfl rfl, mTp2 (n := _) 14 rfl, mT1 11 rfl rfl, by decide +kernel, by decide +kernel, by decide +kernel, by decide, TX6, 3, rfl⟩
theorem mlX6_54 : Cond.methodLink RX6 54 arraycopyName ∈ lwT := mT4 13 rfl rfl
theorem cvL_112 : CV RL 112 yX9_who cX9_who 2 (some .int) 1 9 := ⟨cwX9_who, mT4 14 rfl rfl, mT4 15 rfl rfl, mT4 16 rfl rfl, mT1 1 rfl rfl, by decide +kernel, by decide +kernel, by decide +kernel, by decide, TX9, 14, rfl⟩
theorem cvX9_245 : CV RX9 245 yX6_onlyOwner cX6_onlyOwner 5 (some .int) 2 6 := ⟨cwX6_onlyOwner, mT4 18 rfl rfl, mT4 19 rfl rfl, mT4 20 rfl rfl, mT1 11 rfl rfl, by decide +kernel, by decide +kernel, by decide +kernel, by decide, TX6, 3, rfl⟩
theorem cvX6_47 : CV RX6 47 yX6_waysOf cX6_waysOf 5 (some .int) 3 6 := ⟨cwX6_waysOf, mT4 22 rfl rfl, mT4 4 rfl rfl, mT4 5 rfl rfl, mT1 11 rfl rfl, by decide +kernel, by decide +kernel, by decide +kernel, by decide, TX6, 3, rfl⟩
theorem cvL_116 : CV RL 116 yX9_mark cX9_mark 3 (some .int) 2 9 := ⟨cwX9_mark, mT4 23 rfl rfl, mT4 24 rfl rfl, mT4 25 rfl rfl, mT1 1 rfl rfl, by decide +kernel, by decide +kernel, by decide +kernel, by decide, TX9, 14, rfl⟩
theorem cvX9_250 : CV RX9 250 yX9_asFamily cX9_asFamily 2 (some .int) 1 9 := ⟨cwX9_asFamily, mT4 28 rfl rfl, mT4 30 rfl rfl, mTp2 (n := _) 15 rfl, mT1 1 rfl rfl, by decide +kernel, by decide +kernel, by decide +kernel, by decide, TX9, 14, rfl⟩
theorem cvX9_253 : CV RX9 253 yX9_asWidow cX9_asWidow 2 (some .int) 1 9 := ⟨cwX9_asWidow, mT4 32 rfl rfl, mT4 34 rfl rfl, mTp3 (n := _) 0 rfl, mT1 1 rfl rfl, by decide +kernel, by decide +kernel, by decide +kernel, by decide, TX9, 14, rfl⟩
theorem cvX9_256 : CV RX9 256 yX9_asMason cX9_asMason 3 (some .int) 1 9 := ⟨cwX9_asMason, mT4 37 rfl rfl, mT4 39 rfl rfl, mTp3 (n := _) 1 rfl, mT1 1 rfl rfl, by decide +kernel, by decide +kernel, by decide +kernel, by decide, TX9, 14, rfl⟩
theorem cvX9_259 : CV RX9 259 yX9_asHeir cX9_asHeir 2 (some .int) 1 9 := ⟨cwX9_asHeir, mT4 42 rfl rfl, mT4 44 rfl rfl, mTp3 (n := _) 2 rfl, mT1 1 rfl rfl, by decide +kernel, by decide +kernel, by decide +kernel, by decide, TX9, 14, rfl⟩
theorem cvX9_262 : CV RX9 262 yX9_asHired cX9_asHired 2 (some .int) 1 9 := ⟨cwX9_asHired, mT4 47 rfl rfl, mT4 49 rfl rfl, mTp3 (n := _) 3 rfl, mT1 1 rfl rfl, by decide +kernel, by decide +kernel, by decide +kernel, by decide, TX9, 14, rfl⟩
theorem cvX9_284 : CV RX9 284 yX5_yardsOf cX5_yardsOf 4 (some .int) 1 5 := ⟨cwX5_yardsOf, mT4 52 rfl rfl, mT4 53 rfl rfl, mT4 54 rfl rfl, mT1 3 rfl rfl, by decide +kernel, by decide +kernel, by decide +kernel, by decide, TX5, 8, rfl⟩
theorem cvX9_265 : CV RX9 265 yX9_asBachelor cX9_asBachelor 2 (some .int) 1 9 := ⟨cwX9_asBachelor, mT4 56 rfl rfl, mT4 58 rfl rfl, mTp3 (n := _) 4 rfl, mT1 1 rfl rfl, by decide +kernel, by decide +kernel, by decide +kernel, by decide, TX9, 14, rfl⟩
theorem cvL_120 : CV RL 120 yX9_keep cX9_keep 2 (some .int) 1 9 := ⟨cwX9_keep, mT4 61 rfl rfl, mT4 62 rfl rfl, mT4 63 rfl rfl, mT1 1 rfl rfl, by decide +kernel, by decide +kernel, by decide +kernel, by decide, TX9, 14, rfl⟩
theorem cvX9_268 : CV RX9 268 yX3_ownedPieces cX3_ownedPieces 3 (some .int) 0 3 := ⟨cwX3_ownedPieces, mT4 65 rfl rfl, mT4 66 rfl rfl, mT4 67 rfl rfl, mT1 4 rfl rfl, by decide +kernel, by decide +kernel, by decide +kernel, by decide, TX3, 5, rfl⟩
theorem cvL_124 : CV RL 124 yX9_back cX9_back 2 (some .int) 1 9 := ⟨cwX9_back, mT4 69 rfl rfl, mT4 70 rfl rfl, mT4 71 rfl rfl, mT1 1 rfl rfl, by decide +kernel, by decide +kernel, by decide +kernel, by decide, TX9, 14, rfl⟩
theorem cvL_128 : CV RL 128 yX9_count cX9_count 2 (some .int) 1 9 := ⟨cwX9_count, mT4 73 rfl rfl, mT4 74 rfl rfl, mT4 75 rfl rfl, mT1 1 rfl rfl, by decide +kernel, by decide +kernel, by decide +kernel, by decide, TX9, 14, rfl⟩
theorem cvL_132 : CV RL 132 yX9_trace cX9_trace 1 (some .long) 0 9 := ⟨cwX9_trace, mT4 77 rfl rfl, mT4 78 rfl rfl, mT4 79 rfl rfl, mT1 1 rfl rfl, by decide +kernel, by decide +kernel, by decide +kernel, by decide, TX9, 14, rfl⟩
theorem cvL_19 : CV RL 19 yX10_type cX10_type 5 (some .int) 2 10 := ⟨cwX10_type, mT4 178 rfl rfl, mT4 179 rfl rfl, mT4 180 rfl rfl, mT1 12 rfl rfl, by decide +kernel, by decide +kernel, by decide +kernel, by decide, TX10, 30, rfl⟩
theorem csX10_71 : CSt RX10 71 yX10_in cX10_in 6 (some .boolean) 3 := ⟨cwX10_in, mT4 183 rfl rfl, mT4 184 rfl rfl, mT1 12 rfl rfl, by decide +kernel, by decide +kernel, by decide +kernel, by decide⟩
theorem cvL_24 : CV RL 24 yX10_clear cX10_clear 2 (some .int) 0 10 := ⟨cwX10_clear, mT4 187 rfl rfl, mT4 188 rfl rfl, mT4 189 rfl rfl, mT1 12 rfl rfl, by decide +kernel, by decide +kernel, by decide +kernel, by decide, TX10, 30, rfl⟩
theorem cvL_28 : CV RL 28 yX10_town cX10_town 3 (some .int) 0 10 := ⟨cwX10_town, mT4 191 rfl rfl, mT4 192 rfl rfl, mT4 193 rfl rfl, mT1 12 rfl rfl, by decide +kernel, by decide +kernel, by decide +kernel, by decide, TX10, 30, rfl⟩
theorem cvX10_154 : CV RX10 154 yX10_takesAll cX10_takesAll 5 (some .int) 0 10 := ⟨cwX10_takesAll, mT4 195 rfl rfl, mT4 197 rfl rfl, mTp3 (n := _) 5 rfl, mT1 12 rfl rfl, by decide +kernel, by decide +kernel, by decide +kernel, by decide, TX10, 30, rfl⟩
theorem cvX10_117 : CV RX10 117 yX10_next cX10_next 2 none 0 10 := ⟨cwX10_next, mT4 199 rfl rfl, mT4 201 rfl rfl, mTp3 (n := _) 6 rfl, mT1 12 rfl rfl, by decide +kernel, by decide +kernel, by decide +kernel, by decide, TX10, 30, rfl⟩
theorem csX10_95 : CSt RX10 95 yX10_isLetter cX10_isLetter 1 (some .boolean) 1 := ⟨cwX10_isLetter, mT4 203 rfl rfl, mT4 204 rfl rfl, mT1 12 rfl rfl, by decide +kernel, by decide +kernel, by decide +kernel, by decide⟩
theorem csX10_99 : CSt RX10 99 yX10_isFigure cX10_isFigure 1 (some .boolean) 1 := ⟨cwX10_isFigure, mT4 206 rfl rfl, mT4 207 rfl rfl, mT1 12 rfl rfl, by decide +kernel, by decide +kernel, by decide +kernel, by decide⟩
theorem cvX10_140 : CV RX10 140 yX10_takesPiece cX10_takesPiece 2 (some .boolean) 0 10 := ⟨cwX10_takesPiece, mT4 216 rfl rfl, mT4 218 rfl rfl, mTp3 (n := _) 7 rfl, mT1 12 rfl rfl, by decide +kernel, by decide +kernel, by decide +kernel, by decide, TX10, 30, rfl⟩
theorem cvX10_123 : CV RX10 123 yX10_takes cX10_takes 3 (some .boolean) 2 10 := ⟨cwX10_takes, mT4 220 rfl rfl, mT4 222 rfl rfl, mTp3 (n := _) 8 rfl, mT1 12 rfl rfl, by decide +kernel, by decide +kernel, by decide +kernel, by decide, TX10, 30, rfl⟩
theorem cvX10_127 : CV RX10 127 yX10_stops cX10_stops 1 (some .boolean) 0 10 := ⟨cwX10_stops, mT4 224 rfl rfl, mT4 226 rfl rfl, mTp3 (n := _) 9 rfl, mT1 12 rfl rfl, by decide +kernel, by decide +kernel, by decide +kernel, by decide, TX10, 30, rfl⟩
theorem cvX10_145 : CV RX10 145 yX10_takesFamily cX10_takesFamily 2 (some .boolean) 0 10 := ⟨cwX10_takesFamily, mT4 229 rfl rfl, mT4 231 rfl rfl, mTp3 (n := _) 10 rfl, mT1 12 rfl rfl, by decide +kernel, by decide +kernel, by decide +kernel, by decide, TX10, 30, rfl⟩
theorem cvX10_150 : CV RX10 150 yX10_takesTold cX10_takesTold 4 (some .boolean) 1 10 := ⟨cwX10_takesTold, mT4 236 rfl rfl, mT4 238 rfl rfl, mTp3 (n := _) 11 rfl, mT1 12 rfl rfl, by decide +kernel, by decide +kernel, by decide +kernel, by decide, TX10, 30, rfl⟩
theorem cvL_33 : CV RL 33 yX10_piece cX10_piece 3 (some .int) 2 10 := ⟨cwX10_piece, mT5 0 rfl rfl, mT5 1 rfl rfl, mT5 2 rfl rfl, mT1 12 rfl rfl, by decide +kernel, by decide +kernel, by decide +kernel, by decide, TX10, 30, rfl⟩
theorem cvX10_161 : CV RX10 161 yX10_isPiece cX10_isPiece 2 (some .boolean) 1 10 := ⟨cwX10_isPiece, mT5 4 rfl rfl, mT5 6 rfl rfl, mTp3 (n := _) 12 rfl, mT1 12 rfl rfl, by decide +kernel, by decide +kernel, by decide +kernel, by decide, TX10, 30, rfl⟩
theorem cvX10_166 : CV RX10 166 yX10_ownerOf cX10_ownerOf 2 (some .int) 1 10 := ⟨cwX10_ownerOf, mT5 9 rfl rfl, mT5 11 rfl rfl, mTp3 (n := _) 13 rfl, mT1 12 rfl rfl, by decide +kernel, by decide +kernel, by decide +kernel, by decide, TX10, 30, rfl⟩
theorem cvX10_170 : CV RX10 170 yX10_isStone cX10_isStone 2 (some .boolean) 1 10 := ⟨cwX10_isStone, mT5 13 rfl rfl, mT5 15 rfl rfl, mTp3 (n := _) 14 rfl, mT1 12 rfl rfl, by decide +kernel, by decide +kernel, by decide +kernel, by decide, TX10, 30, rfl⟩
theorem cvL_37 : CV RL 37 yX10_family cX10_family 3 (some .int) 2 10 := ⟨cwX10_family, mT5 17 rfl rfl, mT5 18 rfl rfl, mT5 19 rfl rfl, mT1 12 rfl rfl, by decide +kernel, by decide +kernel, by decide +kernel, by decide, TX10, 30, rfl⟩
theorem cvX10_173 : CV RX10 173 yX10_isFamily cX10_isFamily 2 (some .boolean) 1 10 := ⟨cwX10_isFamily, mT5 21 rfl rfl, mT5 23 rfl rfl, mTp3 (n := _) 15 rfl, mT1 12 rfl rfl, by decide +kernel, by decide +kernel, by decide +kernel, by decide, TX10, 30, rfl⟩
theorem cvX10_178 : CV RX10 178 yX10_ownBy cX10_ownBy 5 (some .int) 2 10 := ⟨cwX10_ownBy, mT5 26 rfl rfl, mT5 28 rfl rfl, mTp4 (n := _) 0 rfl, mT1 12 rfl rfl, by decide +kernel, by decide +kernel, by decide +kernel, by decide, TX10, 30, rfl⟩
theorem csX10_182 : CSt RX10 182 yX10_many cX10_many 3 (some .int) 1 := ⟨cwX10_many, mT5 30 rfl rfl, mT5 31 rfl rfl, mT1 12 rfl rfl, by decide +kernel, by decide +kernel, by decide +kernel, by decide⟩
theorem cvL_41 : CV RL 41 yX10_pave cX10_pave 4 (some .int) 2 10 := ⟨cwX10_pave, mT5 33 rfl rfl, mT5 34 rfl rfl, mT5 35 rfl rfl, mT1 12 rfl rfl, by decide +kernel, by decide +kernel, by decide +kernel, by decide, TX10, 30, rfl⟩
theorem cvL_46 : CV RL 46 yX10_free cX10_free 3 (some .int) 1 10 := ⟨cwX10_free, mT5 37 rfl rfl, mT5 38 rfl rfl, mT5 39 rfl rfl, mT1 12 rfl rfl, by decide +kernel, by decide +kernel, by decide +kernel, by decide, TX10, 30, rfl⟩
theorem cvL_50 : CV RL 50 yX10_stone cX10_stone 4 (some .int) 2 10 := ⟨cwX10_stone, mT5 41 rfl rfl, mT5 42 rfl rfl, mT5 43 rfl rfl, mT1 12 rfl rfl, by decide +kernel, by decide +kernel, by decide +kernel, by decide, TX10, 30, rfl⟩
theorem cvL_54 : CV RL 54 yX10_flood cX10_flood 4 (some .int) 2 10 := ⟨cwX10_flood, mT5 45 rfl rfl, mT5 46 rfl rfl, mT5 47 rfl rfl, mT1 12 rfl rfl, by decide +kernel, by decide +kernel, by decide +kernel, by decide, TX10, 30, rfl⟩
theorem cvL_58 : CV RL 58 yX10_way cX10_way 2 (some .int) 1 10 := ⟨cwX10_way, mT5 50 rfl rfl, mT5 51 rfl rfl, mT5 52 rfl rfl, mT1 12 rfl rfl, by decide +kernel, by decide +kernel, by decide +kernel, by decide, TX10, 30, rfl⟩
theorem cvX10_192 : CV RX10 192 yX10_wayOf cX10_wayOf 3 (some .int) 2 10 := ⟨cwX10_wayOf, mT5 54 rfl rfl, mT5 56 rfl rfl, mTp4 (n := _) 1 rfl, mT1 12 rfl rfl, by decide +kernel, by decide +kernel, by decide +kernel, by decide, TX10, 30, rfl⟩
theorem cvX10_188 : CV RX10 188 yX10_measures cX10_measures 6 none 2 10 := ⟨cwX10_measures, mT5 58 rfl rfl, mT5 60 rfl rfl, mTp4 (n := _) 2 rfl, mT1 12 rfl rfl, by decide +kernel, by decide +kernel, by decide +kernel, by decide, TX10, 30, rfl⟩
theorem cvL_62 : CV RL 62 yX10_place cX10_place 10 (some .int) 2 10 := ⟨cwX10_place, mT5 63 rfl rfl, mT5 64 rfl rfl, mT5 65 rfl rfl, mT1 12 rfl rfl, by decide +kernel, by decide +kernel, by decide +kernel, by decide, TX10, 30, rfl⟩
theorem cvL_66 : CV RL 66 yX10_pole cX10_pole 5 (some .int) 2 10 := ⟨cwX10_pole, mT5 67 rfl rfl, mT5 68 rfl rfl, mT5 69 rfl rfl, mT1 12 rfl rfl, by decide +kernel, by decide +kernel, by decide +kernel, by decide, TX10, 30, rfl⟩
theorem cvL_70 : CV RL 70 yX10_judge cX10_judge 7 (some .int) 1 10 := ⟨cwX10_judge, mT5 72 rfl rfl, mT5 73 rfl rfl, mT5 74 rfl rfl, mT1 12 rfl rfl, by decide +kernel, by decide +kernel, by decide +kernel, by decide, TX10, 30, rfl⟩
theorem cvL_74 : CV RL 74 yX10_one cX10_one 4 (some .int) 2 10 := ⟨cwX10_one, mT5 77 rfl rfl, mT5 78 rfl rfl, mT5 79 rfl rfl, mT1 12 rfl rfl, by decide +kernel, by decide +kernel, by decide +kernel, by decide, TX10, 30, rfl⟩
theorem cvX10_203 : CV RX10 203 yX10_bestOfOne cX10_bestOfOne 12 (some .int) 1 10 := ⟨cwX10_bestOfOne, mT5 81 rfl rfl, mT5 83 rfl rfl, mTp4 (n := _) 3 rfl, mT1 12 rfl rfl, by decide +kernel, by decide +kernel, by decide +kernel, by decide, TX10, 30, rfl⟩
theorem cvX10_200 : CV RX10 200 yX10_tells cX10_tells 3 none 0 10 := ⟨cwX10_tells, mT5 85 rfl rfl, mT5 87 rfl rfl, mTp4 (n := _) 4 rfl, mT1 12 rfl rfl, by decide +kernel, by decide +kernel, by decide +kernel, by decide, TX10, 30, rfl⟩
theorem cvL_78 : CV RL 78 yX10_all cX10_all 8 (some .int) 1 10 := ⟨cwX10_all, mT5 89 rfl rfl, mT5 90 rfl rfl, mT5 91 rfl rfl, mT1 12 rfl rfl, by decide +kernel, by decide +kernel, by decide +kernel, by decide, TX10, 30, rfl⟩
theorem cvX10_206 : CV RX10 206 yX10_rowsOfAll cX10_rowsOfAll 3 (some .int) 0 10 := ⟨cwX10_rowsOfAll, mT5 93 rfl rfl, mT5 95 rfl rfl, mTp4 (n := _) 5 rfl, mT1 12 rfl rfl, by decide +kernel, by decide +kernel, by decide +kernel, by decide, TX10, 30, rfl⟩
theorem cvX10_209 : CV RX10 209 yX10_lays cX10_lays 4 none 1 10 := ⟨cwX10_lays, mT5 97 rfl rfl, mT5 99 rfl rfl, mTp4 (n := _) 6 rfl, mT1 12 rfl rfl, by decide +kernel, by decide +kernel, by decide +kernel, by decide, TX10, 30, rfl⟩
theorem cvL_82 : CV RL 82 yX10_change cX10_change 1 (some .int) 0 10 := ⟨cwX10_change, mT5 101 rfl rfl, mT5 102 rfl rfl, mT5 103 rfl rfl, mT1 12 rfl rfl, by decide +kernel, by decide +kernel, by decide +kernel, by decide, TX10, 30, rfl⟩
theorem cvX10_219 : CV RX10 219 yX10_changeBy cX10_changeBy 9 (some .int) 1 10 := ⟨cwX10_changeBy, mT5 105 rfl rfl, mT5 107 rfl rfl, mTp4 (n := _) 7 rfl, mT1 12 rfl rfl, by decide +kernel, by decide +kernel, by decide +kernel, by decide, TX10, 30, rfl⟩
theorem cvX10_213 : CV RX10 213 yX10_costBy cX10_costBy 4 (some .int) 2 10 := ⟨cwX10_costBy, mT5 109 rfl rfl, mT5 111 rfl rfl, mTp4 (n := _) 8 rfl, mT1 12 rfl rfl, by decide +kernel, by decide +kernel, by decide +kernel, by decide, TX10, 30, rfl⟩
theorem csX10_216 : CSt RX10 216 yX10_isLess cX10_isLess 2 (some .boolean) 2 := ⟨cwX10_isLess, mT5 113 rfl rfl, mT5 114 rfl rfl, mT1 12 rfl rfl, by decide +kernel, by decide +kernel, by decide +kernel, by decide⟩
theorem cvL_86 : CV RL 86 yX10_rest cX10_rest 4 (some .int) 0 10 := ⟨cwX10_rest, mT5 116 rfl rfl, mT5 117 rfl rfl, mT5 118 rfl rfl, mT1 12 rfl rfl, by decide +kernel, by decide +kernel, by decide +kernel, by decide, TX10, 30, rfl⟩
theorem cvL_90 : CV RL 90 yX10_match cX10_match 6 (some .int) 2 10 := ⟨cwX10_match, mT5 120 rfl rfl, mT5 121 rfl rfl, mT5 122 rfl rfl, mT1 12 rfl rfl, by decide +kernel, by decide +kernel, by decide +kernel, by decide, TX10, 30, rfl⟩
theorem cvL_94 : CV RL 94 yX10_always cX10_always 4 (some .int) 0 10 := ⟨cwX10_always, mT5 124 rfl rfl, mT5 125 rfl rfl, mT5 126 rfl rfl, mT1 12 rfl rfl, by decide +kernel, by decide +kernel, by decide +kernel, by decide, TX10, 30, rfl⟩
theorem cvL_99 : CV RL 99 yX10_shut cX10_shut 14 (some .long) 2 10 := ⟨cwX10_shut, mT5 128 rfl rfl, mT5 129 rfl rfl, mT5 130 rfl rfl, mT1 12 rfl rfl, by decide +kernel, by decide +kernel, by decide +kernel, by decide, TX10, 30, rfl⟩
theorem cvL_103 : CV RL 103 yX10_saw cX10_saw 3 (some .int) 2 10 := ⟨cwX10_saw, mT5 132 rfl rfl, mT5 133 rfl rfl, mT5 134 rfl rfl, mT1 12 rfl rfl, by decide +kernel, by decide +kernel, by decide +kernel, by decide, TX10, 30, rfl⟩
theorem cvL_107 : CV RL 107 yX10_forget cX10_forget 2 (some .int) 0 10 := ⟨cwX10_forget, mT5 136 rfl rfl, mT5 137 rfl rfl, mT5 138 rfl rfl, mT1 12 rfl rfl, by decide +kernel, by decide +kernel, by decide +kernel, by decide, TX10, 30, rfl⟩
theorem cvL_111 : CV RL 111 yX10_fits cX10_fits 1 (some .int) 0 10 := ⟨cwX10_fits, mT5 140 rfl rfl, mT5 141 rfl rfl, mT5 142 rfl rfl, mT1 12 rfl rfl, by decide +kernel, by decide +kernel, by decide +kernel, by decide, TX10, 30, rfl⟩
theorem cvX10_223 : CV RX10 223 yX10_paves cX10_paves 7 (some .int) 0 10 := ⟨cwX10_paves, mT5 144 rfl rfl, mT5 146 rfl rfl, mTp4 (n := _) 9 rfl, mT1 12 rfl rfl, by decide +kernel, by decide +kernel, by decide +kernel, by decide, TX10, 30, rfl⟩
theorem cvL_115 : CV RL 115 yX10_who cX10_who 4 (some .int) 1 10 := ⟨cwX10_who, mT5 148 rfl rfl, mT5 149 rfl rfl, mT5 150 rfl rfl, mT1 12 rfl rfl, by decide +kernel, by decide +kernel, by decide +kernel, by decide, TX10, 30, rfl⟩
theorem cvL_119 : CV RL 119 yX10_mark cX10_mark 8 (some .int) 2 10 := ⟨cwX10_mark, mT5 152 rfl rfl, mT5 153 rfl rfl, mT5 154 rfl rfl, mT1 12 rfl rfl, by decide +kernel, by decide +kernel, by decide +kernel, by decide, TX10, 30, rfl⟩
theorem cvL_123 : CV RL 123 yX10_keep cX10_keep 4 (some .int) 1 10 := ⟨cwX10_keep, mT5 162 rfl rfl, mT5 163 rfl rfl, mT5 164 rfl rfl, mT1 12 rfl rfl, by decide +kernel, by decide +kernel, by decide +kernel, by decide, TX10, 30, rfl⟩
theorem cvX10_240 : CV RX10 240 yX10_owned cX10_owned 3 (some .int) 0 10 := ⟨cwX10_owned, mT5 166 rfl rfl, mT5 168 rfl rfl, mTp4 (n := _) 10 rfl, mT1 12 rfl rfl, by decide +kernel, by decide +kernel, by decide +kernel, by decide, TX10, 30, rfl⟩
theorem cvL_127 : CV RL 127 yX10_back cX10_back 4 (some .int) 1 10 := ⟨cwX10_back, mT5 170 rfl rfl, mT5 171 rfl rfl, mT5 172 rfl rfl, mT1 12 rfl rfl, by decide +kernel, by decide +kernel, by decide +kernel, by decide, TX10, 30, rfl⟩
theorem cvL_131 : CV RL 131 yX10_count cX10_count 2 (some .int) 1 10 := ⟨cwX10_count, mT5 174 rfl rfl, mT5 175 rfl rfl, mT5 176 rfl rfl, mT1 12 rfl rfl, by decide +kernel, by decide +kernel, by decide +kernel, by decide, TX10, 30, rfl⟩
theorem cvL_136 : CV RL 136 yX10_trace cX10_trace 1 (some .long) 0 10 := ⟨cwX10_trace, mT5 178 rfl rfl, mT5 179 rfl rfl, mT5 180 rfl rfl, mT1 12 rfl rfl, by decide +kernel, by decide +kernel, by decide +kernel, by decide, TX10, 30, rfl⟩
theorem kcX0_18 : Cond.constant RX0 18 (nI 100000) ∈ lwT := mT1 187 rfl rfl
theorem kcJ6_265 : Cond.constant RJ6 265 (nI 1431655765) ∈ lwT := mT3 32 rfl rfl
theorem kcJ6_266 : Cond.constant RJ6 266 (nI 858993459) ∈ lwT := mT3 33 rfl rfl
theorem kcJ6_267 : Cond.constant RJ6 267 (nI 252645135) ∈ lwT := mT3 34 rfl rfl
theorem kcX8_49 : Cond.constant RX8 49 (nI 1600000) ∈ lwT := mT3 73 rfl rfl
theorem kcX9_196 : Cond.constant RX9 196 (nI 100000) ∈ lwT := mT3 85 rfl rfl
theorem kcX8_48 : Cond.constant RX8 48 (nI 100000) ∈ lwT := mT3 204 rfl rfl
theorem kcX2_52 : Cond.constant RX2 52 (nI 100000) ∈ lwT := mT3 220 rfl rfl
theorem kcX9_249 : Cond.constant RX9 249 (-1000000) ∈ lwT := mT4 27 rfl rfl
theorem kcX10_187 : Cond.constant RX10 187 (nI 100000) ∈ lwT := mT5 62 rfl rfl
theorem kcX10_226 : Cond.constant RX10 226 (-1000000) ∈ lwT := mT5 156 rfl rfl
theorem klX9_217 : Cond.constantLong RX9 217 (-1) ∈ lwT := mT3 209 rfl rfl
theorem klX2_53 : Cond.constantLong RX2 53 (lN 10) ∈ lwT := mT3 221 rfl rfl
theorem klX9_276 : Cond.constantLong RX9 276 (lN 10) ∈ lwT := mT4 36 rfl rfl
theorem klX9_278 : Cond.constantLong RX9 278 (lN 100) ∈ lwT := mT4 41 rfl rfl
theorem klX9_280 : Cond.constantLong RX9 280 (lN 1000) ∈ lwT := mT4 46 rfl rfl
theorem klX9_282 : Cond.constantLong RX9 282 (lN 10000) ∈ lwT := mT4 51 rfl rfl
theorem klX9_287 : Cond.constantLong RX9 287 (lN 100000) ∈ lwT := mT4 60 rfl rfl
theorem klX10_78 : Cond.constantLong RX10 78 (lN 8) ∈ lwT := mT4 182 rfl rfl
theorem klX10_83 : Cond.constantLong RX10 83 (lN 255) ∈ lwT := mT4 186 rfl rfl
theorem klX10_105 : Cond.constantLong RX10 105 (lN 32) ∈ lwT := mT4 209 rfl rfl
theorem klX10_107 : Cond.constantLong RX10 107 (lN 96) ∈ lwT := mT4 210 rfl rfl
theorem klX10_109 : Cond.constantLong RX10 109 (-1) ∈ lwT := mT4 211 rfl rfl
theorem klX10_111 : Cond.constantLong RX10 111 (lN 10) ∈ lwT := mT4 212 rfl rfl
theorem klX10_113 : Cond.constantLong RX10 113 (lN 48) ∈ lwT := mT4 213 rfl rfl
theorem klX10_115 : Cond.constantLong RX10 115 (lN 1000) ∈ lwT := mT4 214 rfl rfl
theorem klX10_138 : Cond.constantLong RX10 138 (lN 17077349) ∈ lwT := mT4 215 rfl rfl
theorem klX10_143 : Cond.constantLong RX10 143 (lN 202810777) ∈ lwT := mT4 228 rfl rfl
theorem klX10_136 : Cond.constantLong RX10 136 (lN 16832676) ∈ lwT := mT4 233 rfl rfl
theorem klX10_134 : Cond.constantLong RX10 134 (lN 20594117) ∈ lwT := mT4 234 rfl rfl
theorem klX10_148 : Cond.constantLong RX10 148 (lN 6700516) ∈ lwT := mT4 235 rfl rfl
theorem klX10_164 : Cond.constantLong RX10 164 (lN 5) ∈ lwT := mT5 8 rfl rfl
theorem klX10_176 : Cond.constantLong RX10 176 (lN 3) ∈ lwT := mT5 25 rfl rfl
theorem klX10_185 : Cond.constantLong RX10 185 (lN 9) ∈ lwT := mT5 49 rfl rfl
theorem klX10_196 : Cond.constantLong RX10 196 (lN 30) ∈ lwT := mT5 71 rfl rfl
theorem klX10_198 : Cond.constantLong RX10 198 (lN 2) ∈ lwT := mT5 76 rfl rfl
theorem klX10_230 : Cond.constantLong RX10 230 (lN 11) ∈ lwT := mT5 157 rfl rfl
theorem klX10_232 : Cond.constantLong RX10 232 (lN 101) ∈ lwT := mT5 158 rfl rfl
theorem klX10_234 : Cond.constantLong RX10 234 (lN 1011) ∈ lwT := mT5 159 rfl rfl
theorem klX10_236 : Cond.constantLong RX10 236 (lN 10101) ∈ lwT := mT5 160 rfl rfl
theorem klX10_238 : Cond.constantLong RX10 238 (lN 100001) ∈ lwT := mT5 161 rfl rfl
theorem klL_13 : Cond.constantLong RL 13 (lN 4294967295) ∈ lwT := mT5 182 rfl rfl
def shX : List Shp := [.inr (.inl (9, [some (some 1), some (some 3), some (some 4), some (some 11), some (some 18), some (some 22), some (some 34), some (some 35), some (some 36), some (some 39), some (some 43), some (some 45), some (some 46), some none])), .inr (.inl (7, [some (some 2), none])), .inl (1, 300), .inr (.inl (4, [some (some 1), some (some 11), some (some 22), none, none, none, none])), .inr (.inl (5, [none, some (some 5), some (some 6), some (some 7), none, some (some 8), some (some 9), some (some 10)])), .inl (0, 8), .inl (0, 8), .inl (0, 8), .inl (0, 4), .inl (0, 4), .inl (0, 4), .inr (.inl (5, [none, some (some 12), some (some 13), some (some 14), none, some (some 15), some (some 16), some (some 17)])), .inl (0, 8), .inl (0, 8), .inl (0, 8), .inl (0, 4), .inl (0, 4), .inl (0, 4), .inr (.inl (3, [some (some 19), some (some 20), none, none, some (some 21)])), .inl (0, 8), .inl (0, 8), .inl (0, 4), .inr (.inl (3, [some (some 23), some (some 24), none, none, some (some 25)])), .inl (0, 8), .inl (0, 8), .inl (0, 4), .inr (.inl (3, [some (some 27), some (some 28), none, none, some (some 29)])), .inl (0, 8), .inl (0, 8), .inl (0, 4), .inr (.inl (3, [some (some 31), some (some 32), none, none, some (some 33)])), .inl (0, 8), .inl (0, 8), .inl (0, 4), .inr (.inr [26, 30]), .inl (2, 2), .inr (.inl (8, [some (some 4), some (some 37), some (some 38)])), .inl (0, 1024), .inl (0, 6), .inr (.inl (0, [some (some 4), some (some 36), none, none, none, some (some 40), some (some 41), some (some 42)])), .inl (0, 8), .inl (0, 8), .inl (0, 4), .inr (.inl (1, [some (some 4), some (some 36), some (some 44)])), .inl (0, 8), .inr (.inl (2, [some (some 4), some (some 36), some none, some none])), .inr (.inl (6, [some (some 4), some (some 47), some (some 48)])), .inl (0, 16), .inl (0, 16)]
def shM : List Shp := [.inr (.inl (10, [some (some 1), none, none, some (some 2), some (some 3), some (some 4), none, some (some 5), some (some 6), some (some 7), some (some 8), some (some 9), none, some (some 10), some (some 11), some (some 12), some none, none, none, none, some none, none, none, some (some 13), some (some 14), some (some 15), some (some 16), some (some 17), some (some 18), some (some 19)])), .inl (0, 300), .inl (0, 8), .inl (0, 8), .inl (0, 8), .inl (0, 4), .inl (0, 4), .inl (0, 4), .inl (0, 8), .inl (0, 8), .inl (0, 10), .inl (0, 10), .inl (0, 80), .inl (0, 52), .inl (0, 6), .inl (0, 1024), .inl (0, 8), .inl (0, 8), .inl (0, 4), .inl (0, 8)]
theorem sX_0 : shX[0]? = some (.inr (.inl (9, [some (some 1), some (some 3), some (some 4), some (some 11), some (some 18), some (some 22), some (some 34), some (some 35), some (some 36), some (some 39), some (some 43), some (some 45), some (some 46), some none]))) := rfl
theorem sX_1 : shX[1]? = some (.inr (.inl (7, [some (some 2), none]))) := rfl
theorem sX_2 : shX[2]? = some (.inl (1, 300)) := rfl
theorem sX_3 : shX[3]? = some (.inr (.inl (4, [some (some 1), some (some 11), some (some 22), none, none, none, none]))) := rfl
theorem sX_4 : shX[4]? = some (.inr (.inl (5, [none, some (some 5), some (some 6), some (some 7), none, some (some 8), some (some 9), some (some 10)]))) := rfl
theorem sX_5 : shX[5]? = some (.inl (0, 8)) := rfl
theorem sX_6 : shX[6]? = some (.inl (0, 8)) := rfl
theorem sX_7 : shX[7]? = some (.inl (0, 8)) := rfl
theorem sX_8 : shX[8]? = some (.inl (0, 4)) := rfl
theorem sX_9 : shX[9]? = some (.inl (0, 4)) := rfl
theorem sX_10 : shX[10]? = some (.inl (0, 4)) := rfl
theorem sX_11 : shX[11]? = some (.inr (.inl (5, [none, some (some 12), some (some 13), some (some 14), none, some (some 15), some (some 16), some (some 17)]))) := rfl
theorem sX_12 : shX[12]? = some (.inl (0, 8)) := rfl
theorem sX_13 : shX[13]? = some (.inl (0, 8)) := rfl
theorem sX_14 : shX[14]? = some (.inl (0, 8)) := rfl
theorem sX_15 : shX[15]? = some (.inl (0, 4)) := rfl
theorem sX_16 : shX[16]? = some (.inl (0, 4)) := rfl
theorem sX_17 : shX[17]? = some (.inl (0, 4)) := rfl
theorem sX_18 : shX[18]? = some (.inr (.inl (3, [some (some 19), some (some 20), none, none, some (some 21)]))) := rfl
theorem sX_19 : shX[19]? = some (.inl (0, 8)) := rfl
theorem sX_20 : shX[20]? = some (.inl (0, 8)) := rfl
theorem sX_21 : shX[21]? = some (.inl (0, 4)) := rfl
theorem sX_22 : shX[22]? = some (.inr (.inl (3, [some (some 23), some (some 24), none, none, some (some 25)]))) := rfl
theorem sX_23 : shX[23]? = some (.inl (0, 8)) := rfl
theorem sX_24 : shX[24]? = some (.inl (0, 8)) := rfl
theorem sX_25 : shX[25]? = some (.inl (0, 4)) := rfl
theorem sX_26 : shX[26]? = some (.inr (.inl (3, [some (some 27), some (some 28), none, none, some (some 29)]))) := rfl
theorem sX_27 : shX[27]? = some (.inl (0, 8)) := rfl
theorem sX_28 : shX[28]? = some (.inl (0, 8)) := rfl
theorem sX_29 : shX[29]? = some (.inl (0, 4)) := rfl
theorem sX_30 : shX[30]? = some (.inr (.inl (3, [some (some 31), some (some 32), none, none, some (some 33)]))) := rfl
theorem sX_31 : shX[31]? = some (.inl (0, 8)) := rfl
theorem sX_32 : shX[32]? = some (.inl (0, 8)) := rfl
theorem sX_33 : shX[33]? = some (.inl (0, 4)) := rfl
theorem sX_34 : shX[34]? = some (.inr (.inr [26, 30])) := rfl
theorem sX_35 : shX[35]? = some (.inl (2, 2)) := rfl
theorem sX_36 : shX[36]? = some (.inr (.inl (8, [some (some 4), some (some 37), some (some 38)]))) := rfl
theorem sX_37 : shX[37]? = some (.inl (0, 1024)) := rfl
theorem sX_38 : shX[38]? = some (.inl (0, 6)) := rfl
theorem sX_39 : shX[39]? = some (.inr (.inl (0, [some (some 4), some (some 36), none, none, none, some (some 40), some (some 41), some (some 42)]))) := rfl
theorem sX_40 : shX[40]? = some (.inl (0, 8)) := rfl
theorem sX_41 : shX[41]? = some (.inl (0, 8)) := rfl
theorem sX_42 : shX[42]? = some (.inl (0, 4)) := rfl
theorem sX_43 : shX[43]? = some (.inr (.inl (1, [some (some 4), some (some 36), some (some 44)]))) := rfl
theorem sX_44 : shX[44]? = some (.inl (0, 8)) := rfl
theorem sX_45 : shX[45]? = some (.inr (.inl (2, [some (some 4), some (some 36), some none, some none]))) := rfl
theorem sX_46 : shX[46]? = some (.inr (.inl (6, [some (some 4), some (some 47), some (some 48)]))) := rfl
theorem sX_47 : shX[47]? = some (.inl (0, 16)) := rfl
theorem sX_48 : shX[48]? = some (.inl (0, 16)) := rfl
theorem sM_0 : shM[0]? = some (.inr (.inl (10, [some (some 1), none, none, some (some 2), some (some 3), some (some 4), none, some (some 5), some (some 6), some (some 7), some (some 8), some (some 9), none, some (some 10), some (some 11), some (some 12), some none, none, none, none, some none, none, none, some (some 13), some (some 14), some (some 15), some (some 16), some (some 17), some (some 18), some (some 19)]))) := rfl
theorem sM_1 : shM[1]? = some (.inl (0, 300)) := rfl
theorem sM_2 : shM[2]? = some (.inl (0, 8)) := rfl
theorem sM_3 : shM[3]? = some (.inl (0, 8)) := rfl
theorem sM_4 : shM[4]? = some (.inl (0, 8)) := rfl
theorem sM_5 : shM[5]? = some (.inl (0, 4)) := rfl
theorem sM_6 : shM[6]? = some (.inl (0, 4)) := rfl
theorem sM_7 : shM[7]? = some (.inl (0, 4)) := rfl
theorem sM_8 : shM[8]? = some (.inl (0, 8)) := rfl
theorem sM_9 : shM[9]? = some (.inl (0, 8)) := rfl
theorem sM_10 : shM[10]? = some (.inl (0, 10)) := rfl
theorem sM_11 : shM[11]? = some (.inl (0, 10)) := rfl
theorem sM_12 : shM[12]? = some (.inl (0, 80)) := rfl
theorem sM_13 : shM[13]? = some (.inl (0, 52)) := rfl
theorem sM_14 : shM[14]? = some (.inl (0, 6)) := rfl
theorem sM_15 : shM[15]? = some (.inl (0, 1024)) := rfl
theorem sM_16 : shM[16]? = some (.inl (0, 8)) := rfl
theorem sM_17 : shM[17]? = some (.inl (0, 8)) := rfl
theorem sM_18 : shM[18]? = some (.inl (0, 4)) := rfl
theorem sM_19 : shM[19]? = some (.inl (0, 8)) := rfl
