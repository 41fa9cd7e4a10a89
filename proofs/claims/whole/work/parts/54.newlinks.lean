/-! ===== words of the constructors ===== -/
theorem wOI : Cond.instanceMethod objectInit ∈ lwT := mT1 26 rfl rfl
theorem wOC : Cond.code objectInit ⟨#[0xb1]⟩ 1 none ∈ lwT := mT1 27 rfl rfl
theorem wAi : Cond.arrayClass .int ∈ lwT := mT1 100 rfl rfl
theorem wAb : Cond.arrayClass .byte ∈ lwT := mT1 44 rfl rfl
theorem wAz : Cond.arrayClass .boolean ∈ lwT := mT1 180 rfl rfl
def FQ (own : String) (idx ci j : Nat) (ty : FieldType) : Prop := FL own idx ci j ∧ ∀ (C : String) (T : u_T) (N : Nat), vwCl[ci]? = some (C, T, N) → (T j).2.2.2 = true ∧ (T j).1 = own ∧ parseFieldDescriptor (T j).2.2.1 = some ty
theorem fqX7_9 : FQ RX7 9 7 0 (.array .byte) := ⟨flX7_9, fun C T N h => by cases h; exact ⟨rfl, rfl, by decide +kernel⟩⟩
theorem fqX5_15 : FQ RX5 15 5 1 (.array .int) := ⟨flX5_15, fun C T N h => by cases h; exact ⟨rfl, rfl, by decide +kernel⟩⟩
theorem fqX5_19 : FQ RX5 19 5 2 (.array .int) := ⟨flX5_19, fun C T N h => by cases h; exact ⟨rfl, rfl, by decide +kernel⟩⟩
theorem fqX5_22 : FQ RX5 22 5 3 (.array .int) := ⟨flX5_22, fun C T N h => by cases h; exact ⟨rfl, rfl, by decide +kernel⟩⟩
theorem fqX5_28 : FQ RX5 28 5 5 (.array .int) := ⟨flX5_28, fun C T N h => by cases h; exact ⟨rfl, rfl, by decide +kernel⟩⟩
theorem fqX5_31 : FQ RX5 31 5 6 (.array .int) := ⟨flX5_31, fun C T N h => by cases h; exact ⟨rfl, rfl, by decide +kernel⟩⟩
theorem fqX5_34 : FQ RX5 34 5 7 (.array .int) := ⟨flX5_34, fun C T N h => by cases h; exact ⟨rfl, rfl, by decide +kernel⟩⟩
theorem fqX3_9 : FQ RX3 9 3 0 (.array .int) := ⟨flX3_9, fun C T N h => by cases h; exact ⟨rfl, rfl, by decide +kernel⟩⟩
theorem fqX3_15 : FQ RX3 15 3 1 (.array .int) := ⟨flX3_15, fun C T N h => by cases h; exact ⟨rfl, rfl, by decide +kernel⟩⟩
theorem fqX3_25 : FQ RX3 25 3 4 (.array .int) := ⟨flX3_25, fun C T N h => by cases h; exact ⟨rfl, rfl, by decide +kernel⟩⟩
theorem fqX4_24 : FQ RX4 24 4 0 (.object "PavedBan$Typed") := ⟨flX4_24, fun C T N h => by cases h; exact ⟨rfl, rfl, by decide +kernel⟩⟩
theorem fqX4_28 : FQ RX4 28 4 1 (.object "PavedBan$Town") := ⟨flX4_28, fun C T N h => by cases h; exact ⟨rfl, rfl, by decide +kernel⟩⟩
theorem fqX4_32 : FQ RX4 32 4 2 (.object "PavedBan$Now") := ⟨flX4_32, fun C T N h => by cases h; exact ⟨rfl, rfl, by decide +kernel⟩⟩
theorem fqX8_18 : FQ RX8 18 8 0 (.object "PavedBan$Town") := ⟨flX8_18, fun C T N h => by cases h; exact ⟨rfl, rfl, by decide +kernel⟩⟩
theorem fqX8_9 : FQ RX8 9 8 1 (.array .int) := ⟨flX8_9, fun C T N h => by cases h; exact ⟨rfl, rfl, by decide +kernel⟩⟩
theorem fqX8_15 : FQ RX8 15 8 2 (.array .int) := ⟨flX8_15, fun C T N h => by cases h; exact ⟨rfl, rfl, by decide +kernel⟩⟩
theorem fqX0_32 : FQ RX0 32 0 0 (.object "PavedBan$Town") := ⟨flX0_32, fun C T N h => by cases h; exact ⟨rfl, rfl, by decide +kernel⟩⟩
theorem fqX0_36 : FQ RX0 36 0 1 (.object "PavedBan$Ways") := ⟨flX0_36, fun C T N h => by cases h; exact ⟨rfl, rfl, by decide +kernel⟩⟩
theorem fqX0_22 : FQ RX0 22 0 5 (.array .int) := ⟨flX0_22, fun C T N h => by cases h; exact ⟨rfl, rfl, by decide +kernel⟩⟩
theorem fqX0_26 : FQ RX0 26 0 6 (.array .int) := ⟨flX0_26, fun C T N h => by cases h; exact ⟨rfl, rfl, by decide +kernel⟩⟩
theorem fqX0_29 : FQ RX0 29 0 7 (.array .int) := ⟨flX0_29, fun C T N h => by cases h; exact ⟨rfl, rfl, by decide +kernel⟩⟩
theorem fqX1_15 : FQ RX1 15 1 0 (.object "PavedBan$Town") := ⟨flX1_15, fun C T N h => by cases h; exact ⟨rfl, rfl, by decide +kernel⟩⟩
theorem fqX1_19 : FQ RX1 19 1 1 (.object "PavedBan$Ways") := ⟨flX1_19, fun C T N h => by cases h; exact ⟨rfl, rfl, by decide +kernel⟩⟩
theorem fqX1_9 : FQ RX1 9 1 2 (.array .int) := ⟨flX1_9, fun C T N h => by cases h; exact ⟨rfl, rfl, by decide +kernel⟩⟩
theorem fqX2_18 : FQ RX2 18 2 0 (.object "PavedBan$Town") := ⟨flX2_18, fun C T N h => by cases h; exact ⟨rfl, rfl, by decide +kernel⟩⟩
theorem fqX2_22 : FQ RX2 22 2 1 (.object "PavedBan$Ways") := ⟨flX2_22, fun C T N h => by cases h; exact ⟨rfl, rfl, by decide +kernel⟩⟩
theorem fqX6_18 : FQ RX6 18 6 0 (.object "PavedBan$Town") := ⟨flX6_18, fun C T N h => by cases h; exact ⟨rfl, rfl, by decide +kernel⟩⟩
theorem fqX6_9 : FQ RX6 9 6 1 (.array .int) := ⟨flX6_9, fun C T N h => by cases h; exact ⟨rfl, rfl, by decide +kernel⟩⟩
theorem fqX6_15 : FQ RX6 15 6 2 (.array .int) := ⟨flX6_15, fun C T N h => by cases h; exact ⟨rfl, rfl, by decide +kernel⟩⟩
theorem fqX9_10 : FQ RX9 10 9 0 (.object "PavedBan$Typed") := ⟨flX9_10, fun C T N h => by cases h; exact ⟨rfl, rfl, by decide +kernel⟩⟩
theorem fqX9_41 : FQ RX9 41 9 1 (.object "PavedBan$Reader") := ⟨flX9_41, fun C T N h => by cases h; exact ⟨rfl, rfl, by decide +kernel⟩⟩
theorem fqX9_19 : FQ RX9 19 9 2 (.object "PavedBan$Town") := ⟨flX9_19, fun C T N h => by cases h; exact ⟨rfl, rfl, by decide +kernel⟩⟩
theorem fqX9_23 : FQ RX9 23 9 3 (.object "PavedBan$Town") := ⟨flX9_23, fun C T N h => by cases h; exact ⟨rfl, rfl, by decide +kernel⟩⟩
theorem fqX9_29 : FQ RX9 29 9 4 (.object "PavedBan$Now") := ⟨flX9_29, fun C T N h => by cases h; exact ⟨rfl, rfl, by decide +kernel⟩⟩
theorem fqX9_33 : FQ RX9 33 9 5 (.object "PavedBan$Now") := ⟨flX9_33, fun C T N h => by cases h; exact ⟨rfl, rfl, by decide +kernel⟩⟩
theorem fqX9_45 : FQ RX9 45 9 6 (.array (.object "PavedBan$Now")) := ⟨flX9_45, fun C T N h => by cases h; exact ⟨rfl, rfl, by decide +kernel⟩⟩
theorem fqX9_49 : FQ RX9 49 9 7 (.array .boolean) := ⟨flX9_49, fun C T N h => by cases h; exact ⟨rfl, rfl, by decide +kernel⟩⟩
theorem fqX9_58 : FQ RX9 58 9 8 (.object "PavedBan$Ways") := ⟨flX9_58, fun C T N h => by cases h; exact ⟨rfl, rfl, by decide +kernel⟩⟩
theorem fqX9_67 : FQ RX9 67 9 9 (.object "PavedBan$Choice") := ⟨flX9_67, fun C T N h => by cases h; exact ⟨rfl, rfl, by decide +kernel⟩⟩
theorem fqX9_74 : FQ RX9 74 9 10 (.object "PavedBan$Exchanges") := ⟨flX9_74, fun C T N h => by cases h; exact ⟨rfl, rfl, by decide +kernel⟩⟩
theorem fqX9_81 : FQ RX9 81 9 11 (.object "PavedBan$Floods") := ⟨flX9_81, fun C T N h => by cases h; exact ⟨rfl, rfl, by decide +kernel⟩⟩
theorem fqX9_88 : FQ RX9 88 9 12 (.object "PavedBan$Tracks") := ⟨flX9_88, fun C T N h => by cases h; exact ⟨rfl, rfl, by decide +kernel⟩⟩
theorem fqX10_7 : FQ RX10 7 10 0 (.array .int) := ⟨flX10_7, fun C T N h => by cases h; exact ⟨rfl, rfl, by decide +kernel⟩⟩
theorem fqX10_13 : FQ RX10 13 10 3 (.array .int) := ⟨flX10_13, fun C T N h => by cases h; exact ⟨rfl, rfl, by decide +kernel⟩⟩
theorem fqX10_16 : FQ RX10 16 10 4 (.array .int) := ⟨flX10_16, fun C T N h => by cases h; exact ⟨rfl, rfl, by decide +kernel⟩⟩
theorem fqX10_19 : FQ RX10 19 10 5 (.array .int) := ⟨flX10_19, fun C T N h => by cases h; exact ⟨rfl, rfl, by decide +kernel⟩⟩
theorem fqX10_22 : FQ RX10 22 10 7 (.array .int) := ⟨flX10_22, fun C T N h => by cases h; exact ⟨rfl, rfl, by decide +kernel⟩⟩
theorem fqX10_25 : FQ RX10 25 10 8 (.array .int) := ⟨flX10_25, fun C T N h => by cases h; exact ⟨rfl, rfl, by decide +kernel⟩⟩
theorem fqX10_28 : FQ RX10 28 10 9 (.array .int) := ⟨flX10_28, fun C T N h => by cases h; exact ⟨rfl, rfl, by decide +kernel⟩⟩
theorem fqX10_31 : FQ RX10 31 10 10 (.array .int) := ⟨flX10_31, fun C T N h => by cases h; exact ⟨rfl, rfl, by decide +kernel⟩⟩
theorem fqX10_34 : FQ RX10 34 10 11 (.array .int) := ⟨flX10_34, fun C T N h => by cases h; exact ⟨rfl, rfl, by decide +kernel⟩⟩
theorem fqX10_37 : FQ RX10 37 10 13 (.array .int) := ⟨flX10_37, fun C T N h => by cases h; exact ⟨rfl, rfl, by decide +kernel⟩⟩
theorem fqX10_40 : FQ RX10 40 10 14 (.array .int) := ⟨flX10_40, fun C T N h => by cases h; exact ⟨rfl, rfl, by decide +kernel⟩⟩
theorem fqX10_43 : FQ RX10 43 10 15 (.array .int) := ⟨flX10_43, fun C T N h => by cases h; exact ⟨rfl, rfl, by decide +kernel⟩⟩
theorem fqX10_46 : FQ RX10 46 10 23 (.array .int) := ⟨flX10_46, fun C T N h => by cases h; exact ⟨rfl, rfl, by decide +kernel⟩⟩
theorem fqX10_49 : FQ RX10 49 10 24 (.array .int) := ⟨flX10_49, fun C T N h => by cases h; exact ⟨rfl, rfl, by decide +kernel⟩⟩
theorem fqX10_52 : FQ RX10 52 10 25 (.array .int) := ⟨flX10_52, fun C T N h => by cases h; exact ⟨rfl, rfl, by decide +kernel⟩⟩
theorem fqX10_55 : FQ RX10 55 10 26 (.array .int) := ⟨flX10_55, fun C T N h => by cases h; exact ⟨rfl, rfl, by decide +kernel⟩⟩
theorem fqX10_58 : FQ RX10 58 10 27 (.array .int) := ⟨flX10_58, fun C T N h => by cases h; exact ⟨rfl, rfl, by decide +kernel⟩⟩
theorem fqX10_61 : FQ RX10 61 10 28 (.array .int) := ⟨flX10_61, fun C T N h => by cases h; exact ⟨rfl, rfl, by decide +kernel⟩⟩
theorem fqX10_64 : FQ RX10 64 10 29 (.array .int) := ⟨flX10_64, fun C T N h => by cases h; exact ⟨rfl, rfl, by decide +kernel⟩⟩
theorem oiX9_1 : Cond.methodLink RX9 1 objectInit ∈ lwT := mT1 25 rfl rfl
theorem oiX7_3 : Cond.methodLink RX7 3 objectInit ∈ lwT := mT1 33 rfl rfl
theorem oiX5_3 : Cond.methodLink RX5 3 objectInit ∈ lwT := mT1 50 rfl rfl
theorem oiX3_3 : Cond.methodLink RX3 3 objectInit ∈ lwT := mT1 106 rfl rfl
theorem oiX4_3 : Cond.methodLink RX4 3 objectInit ∈ lwT := mT1 140 rfl rfl
theorem oiX8_3 : Cond.methodLink RX8 3 objectInit ∈ lwT := mT1 169 rfl rfl
theorem oiX0_3 : Cond.methodLink RX0 3 objectInit ∈ lwT := mT1 186 rfl rfl
theorem oiX1_3 : Cond.methodLink RX1 3 objectInit ∈ lwT := mT1 220 rfl rfl
theorem oiX2_3 : Cond.methodLink RX2 3 objectInit ∈ lwT := mT1 236 rfl rfl
theorem oiX6_3 : Cond.methodLink RX6 3 objectInit ∈ lwT := mT2 17 rfl rfl
theorem oiX10_1 : Cond.methodLink RX10 1 objectInit ∈ lwT := mT4 86 rfl rfl
def NWc (own : String) (idx ci : Nat) (C : String) (T : u_T) (N : Nat) : Prop := vwCl[ci]? = some (C, T, N) ∧ Cond.classLink own idx C ∈ lwT ∧ Cond.instantiable C N ∈ lwT ∧ Cond.initialized C ∈ lwT
theorem nwL_7 : NWc RL 7 9 RX9 TX9 14 := ⟨rfl, mT1 20 rfl rfl, mT1 21 rfl rfl, mT1 1 rfl rfl⟩
theorem nwX9_7 : NWc RX9 7 7 RX7 TX7 2 := ⟨rfl, mT1 28 rfl rfl, mT1 29 rfl rfl, mT1 2 rfl rfl⟩
theorem nwX9_16 : NWc RX9 16 5 RX5 TX5 8 := ⟨rfl, mT1 45 rfl rfl, mT1 46 rfl rfl, mT1 3 rfl rfl⟩
theorem nwX9_26 : NWc RX9 26 3 RX3 TX3 5 := ⟨rfl, mT1 101 rfl rfl, mT1 102 rfl rfl, mT1 4 rfl rfl⟩
theorem nwX9_36 : NWc RX9 36 4 RX4 TX4 7 := ⟨rfl, mT1 135 rfl rfl, mT1 136 rfl rfl, mT1 6 rfl rfl⟩
theorem nwX9_53 : NWc RX9 53 8 RX8 TX8 3 := ⟨rfl, mT1 164 rfl rfl, mT1 165 rfl rfl, mT1 7 rfl rfl⟩
theorem nwX9_62 : NWc RX9 62 0 RX0 TX0 8 := ⟨rfl, mT1 181 rfl rfl, mT1 182 rfl rfl, mT1 8 rfl rfl⟩
theorem nwX9_71 : NWc RX9 71 1 RX1 TX1 3 := ⟨rfl, mT1 215 rfl rfl, mT1 216 rfl rfl, mT1 9 rfl rfl⟩
theorem nwX9_78 : NWc RX9 78 2 RX2 TX2 4 := ⟨rfl, mT1 231 rfl rfl, mT1 232 rfl rfl, mT1 10 rfl rfl⟩
theorem nwX9_85 : NWc RX9 85 6 RX6 TX6 3 := ⟨rfl, mT2 12 rfl rfl, mT2 13 rfl rfl, mT1 11 rfl rfl⟩
theorem nwL_10 : NWc RL 10 10 RX10 TX10 30 := ⟨rfl, mT4 81 rfl rfl, mT4 82 rfl rfl, mT1 12 rfl rfl⟩
/-- a constructor, by its words; nest: by its nest mate's link -/
def CIw (own : String) (idx : Nat) (y : MethodName) (bs : ByteArray) (ml n : Nat) : Prop := Cond.code y bs ml none ∈ lwT ∧ Cond.instanceMethod y ∈ lwT ∧ Cond.initialized y.cls ∈ lwT ∧ y.name = "<init>" ∧ y.cls ≠ "java/lang/invoke/MethodHandle" ∧ y.cls ≠ "java/lang/invoke/VarHandle" ∧ (parseMethodDescriptor y.desc).map (fun d => d.parameters.length) = some n ∧ ml ≤ 60
theorem ciL_9 : CIw RL 9 yX9_init cX9_init 2 0 := ⟨cwX9_init, mT1 23 rfl rfl, mT1 1 rfl rfl, rfl, by decide +kernel, by decide +kernel, by decide +kernel, by decide⟩
theorem clL_9 : Cond.methodLink RL 9 yX9_init ∈ lwT := mT1 22 rfl rfl
theorem ciX9_9 : CIw RX9 9 yX7_init cX7_init 1 0 := ⟨cwX7_init, mT1 31 rfl rfl, mT1 2 rfl rfl, rfl, by decide +kernel, by decide +kernel, by decide +kernel, by decide⟩
theorem ciX9_18 : CIw RX9 18 yX5_init cX5_init 1 0 := ⟨cwX5_init, mT1 48 rfl rfl, mT1 3 rfl rfl, rfl, by decide +kernel, by decide +kernel, by decide +kernel, by decide⟩
theorem ciX9_28 : CIw RX9 28 yX3_init cX3_init 1 0 := ⟨cwX3_init, mT1 104 rfl rfl, mT1 4 rfl rfl, rfl, by decide +kernel, by decide +kernel, by decide +kernel, by decide⟩
theorem clX9_28 : Cond.methodLink RX9 28 yX3_init ∈ lwT := mT1 103 rfl rfl
theorem ciX9_38 : CIw RX9 38 yX4_init cX4_init 4 3 := ⟨cwX4_init, mT1 138 rfl rfl, mT1 6 rfl rfl, rfl, by decide +kernel, by decide +kernel, by decide +kernel, by decide⟩
theorem clX9_38 : Cond.methodLink RX9 38 yX4_init ∈ lwT := mT1 137 rfl rfl
theorem ciX9_55 : CIw RX9 55 yX8_init cX8_init 2 1 := ⟨cwX8_init, mT1 167 rfl rfl, mT1 7 rfl rfl, rfl, by decide +kernel, by decide +kernel, by decide +kernel, by decide⟩
theorem clX9_55 : Cond.methodLink RX9 55 yX8_init ∈ lwT := mT1 166 rfl rfl
theorem ciX9_64 : CIw RX9 64 yX0_init cX0_init 3 2 := ⟨cwX0_init, mT1 184 rfl rfl, mT1 8 rfl rfl, rfl, by decide +kernel, by decide +kernel, by decide +kernel, by decide⟩
theorem clX9_64 : Cond.methodLink RX9 64 yX0_init ∈ lwT := mT1 183 rfl rfl
theorem ciX9_73 : CIw RX9 73 yX1_init cX1_init 3 2 := ⟨cwX1_init, mT1 218 rfl rfl, mT1 9 rfl rfl, rfl, by decide +kernel, by decide +kernel, by decide +kernel, by decide⟩
theorem clX9_73 : Cond.methodLink RX9 73 yX1_init ∈ lwT := mT1 217 rfl rfl
theorem ciX9_80 : CIw RX9 80 yX2_init cX2_init 3 2 := ⟨cwX2_init, mT1 234 rfl rfl, mT1 10 rfl rfl, rfl, by decide +kernel, by decide +kernel, by decide +kernel, by decide⟩
theorem clX9_80 : Cond.methodLink RX9 80 yX2_init ∈ lwT := mT1 233 rfl rfl
theorem ciX9_87 : CIw RX9 87 yX6_init cX6_init 2 1 := ⟨cwX6_init, mT2 15 rfl rfl, mT1 11 rfl rfl, rfl, by decide +kernel, by decide +kernel, by decide +kernel, by decide⟩
theorem clX9_87 : Cond.methodLink RX9 87 yX6_init ∈ lwT := mT2 14 rfl rfl
theorem ciL_12 : CIw RL 12 yX10_init cX10_init 1 0 := ⟨cwX10_init, mT4 84 rfl rfl, mT1 12 rfl rfl, rfl, by decide +kernel, by decide +kernel, by decide +kernel, by decide⟩
theorem clL_12 : Cond.methodLink RL 12 yX10_init ∈ lwT := mT4 83 rfl rfl
