/-! share(): the answer, or its own exception -/
def zXW : List Cond := vx_atS RX9 200 "java/lang/ArithmeticException" ["java/lang/RuntimeException", "java/lang/Exception"]
def zXB : List Cond := [.declares (Bundle.initS "java/lang/RuntimeException"), .declares (Bundle.initS "java/lang/Exception"), .declares (Bundle.initS Bundle.tN), .castable "java/lang/ArithmeticException" "java/lang/ArithmeticException"]
set_option maxRecDepth 20000 in
theorem zXn : zXW.filter (fun w => !goodWord w) = zXB := by decide +kernel
set_option maxRecDepth 20000 in
theorem zXg : ∀ w ∈ zXW.filter goodWord, w ∈ zTB := zmemU (zXW.filter goodWord) [94, 1113, 1122, 1124, 1127, 1129, 1114, 1115, 104, 105, 1116, 1121, 1125, 1145, 1103, 1146, 1105, 1147, 1107, 1117, 1119, 1109, 1141, 1142, 1144, 1109, 1132, 1133, 1134, 1135, 1135, 1136, 1137, 1138, 1138, 1139, 1140, 1141, 1131, 1092, 1100, 1101, 1102, 1104, 1106, 1108, 1112, 1111, 1110] (by decide +kernel) (by decide +kernel)
theorem mB_X9_196 : Cond.classLink RX9 196 "java/lang/ArithmeticException" ∈ zTB := zmem5 (List.mem_of_getElem? (i := 53) rfl) rfl
theorem mN_AE : Cond.initialized "java/lang/ArithmeticException" ∈ zTB := zmem1 (List.mem_of_getElem? (i := 19) rfl) rfl
