/-! the tables' rows that constructors use, printed by program -/
def dX0 : List Value := [.null, .null, .null, .null, .int 0]
theorem wz_oi0 : Cond.methodLink RX0 3 Lib.objectInit ∈ wT := wu (wtab_2 (List.mem_of_getElem? (i := 51) (by decide +kernel))) rfl
theorem fz_X0_9 : Cond.fieldLink RX0 9 (TX0 2).1 (TX0 2).2.1 (TX0 2).2.2.1 ∈ wT := wu (wtab_2 (List.mem_of_getElem? (i := 54) (by decide +kernel))) rfl
theorem fz_X0_15 : Cond.fieldLink RX0 15 (TX0 3).1 (TX0 3).2.1 (TX0 3).2.2.1 ∈ wT := wu (wtab_2 (List.mem_of_getElem? (i := 55) (by decide +kernel))) rfl
theorem fz_X0_18 : Cond.fieldLink RX0 18 (TX0 0).1 (TX0 0).2.1 (TX0 0).2.2.1 ∈ wT := wu (wtab_2 (List.mem_of_getElem? (i := 52) (by decide +kernel))) rfl
theorem fz_X0_28 : Cond.fieldLink RX0 28 (TX0 1).1 (TX0 1).2.1 (TX0 1).2.2.1 ∈ wT := wu (wtab_2 (List.mem_of_getElem? (i := 53) (by decide +kernel))) rfl
def dX4 : List Value := [.null, .null, .null, .null, .int 0, .int 0, .long 0, .int 0, .int 0, .int 0, .int 0, .int 0, .null, .int 0, .null]
theorem wz_oi4 : Cond.methodLink RX4 3 Lib.objectInit ∈ wT := wu (wtab_2 (List.mem_of_getElem? (i := 45) (by decide +kernel))) rfl
theorem fz_X4_9 : Cond.fieldLink RX4 9 (TX4 2).1 (TX4 2).2.1 (TX4 2).2.2.1 ∈ wT := wu (wtab_2 (List.mem_of_getElem? (i := 70) (by decide +kernel))) rfl
theorem fz_X4_15 : Cond.fieldLink RX4 15 (TX4 0).1 (TX4 0).2.1 (TX4 0).2.2.1 ∈ wT := wu (wtab_2 (List.mem_of_getElem? (i := 68) (by decide +kernel))) rfl
theorem fz_X4_19 : Cond.fieldLink RX4 19 (TX4 3).1 (TX4 3).2.1 (TX4 3).2.2.1 ∈ wT := wu (wtab_2 (List.mem_of_getElem? (i := 71) (by decide +kernel))) rfl
theorem wz_cl_4_23 : Cond.classLink RX4 23 RX0 ∈ wT := wu (wtab_2 (List.mem_of_getElem? (i := 46) (by decide +kernel))) rfl
theorem wz_ml_4_25 : Cond.methodLink RX4 25 yX0_init ∈ wT := wu (wtab_2 (List.mem_of_getElem? (i := 48) (by decide +kernel))) rfl
theorem fz_X4_28 : Cond.fieldLink RX4 28 (TX4 1).1 (TX4 1).2.1 (TX4 1).2.2.1 ∈ wT := wu (wtab_2 (List.mem_of_getElem? (i := 69) (by decide +kernel))) rfl
theorem fz_X4_38 : Cond.fieldLink RX4 38 (TX4 12).1 (TX4 12).2.1 (TX4 12).2.2.1 ∈ wT := wu (wtab_2 (List.mem_of_getElem? (i := 82) (by decide +kernel))) rfl
theorem fz_X4_46 : Cond.fieldLink RX4 46 (TX4 14).1 (TX4 14).2.1 (TX4 14).2.2.1 ∈ wT := wu (wtab_2 (List.mem_of_getElem? (i := 84) (by decide +kernel))) rfl
def dX2 : List Value := [.null, .int 0, .null, .int 0, .null, .null, .null, .int 0, .int 0]
theorem wz_oi2 : Cond.methodLink RX2 3 Lib.objectInit ∈ wT := wu (wtab_1 (List.mem_of_getElem? (i := 24) (by decide +kernel))) rfl
theorem wz_cl_2_9 : Cond.classLink RX2 9 RX6 ∈ wT := wu (wtab_1 (List.mem_of_getElem? (i := 25) (by decide +kernel))) rfl
theorem fz_X2_11 : Cond.fieldLink RX2 11 (TX2 0).1 (TX2 0).2.1 (TX2 0).2.2.1 ∈ wT := wu (wtab_1 (List.mem_of_getElem? (i := 203) (by decide +kernel))) rfl
theorem wz_cl_2_17 : Cond.classLink RX2 17 RX3 ∈ wT := wu (wtab_1 (List.mem_of_getElem? (i := 27) (by decide +kernel))) rfl
theorem fz_X2_19 : Cond.fieldLink RX2 19 (TX2 2).1 (TX2 2).2.1 (TX2 2).2.2.1 ∈ wT := wu (wtab_1 (List.mem_of_getElem? (i := 211) (by decide +kernel))) rfl
theorem fz_X2_23 : Cond.fieldLink RX2 23 (TX2 4).1 (TX2 4).2.1 (TX2 4).2.2.1 ∈ wT := wu (wtab_1 (List.mem_of_getElem? (i := 221) (by decide +kernel))) rfl
theorem fz_X2_27 : Cond.fieldLink RX2 27 (TX2 5).1 (TX2 5).2.1 (TX2 5).2.2.1 ∈ wT := wu (wtab_1 (List.mem_of_getElem? (i := 222) (by decide +kernel))) rfl
theorem fz_X2_31 : Cond.fieldLink RX2 31 (TX2 6).1 (TX2 6).2.1 (TX2 6).2.2.1 ∈ wT := wu (wtab_1 (List.mem_of_getElem? (i := 226) (by decide +kernel))) rfl
theorem wz_ml_2_34 : Cond.methodLink RX2 34 yX6_init ∈ wT := wu (wtab_1 (List.mem_of_getElem? (i := 30) (by decide +kernel))) rfl
theorem wz_mn_2_37 : Cond.methodLinkNest RX2 37 yX3_init "CallCourt" ∈ wN := wn (wtab_1 (List.mem_of_getElem? (i := 149) (by decide +kernel))) rfl
def dX7 : List Value := [.null, .int 0, .int 0, .int 0, .null, .null, .null, .null, .null]
theorem wz_oi7 : Cond.methodLink RX7 3 Lib.objectInit ∈ wT := wu (wtab_1 (List.mem_of_getElem? (i := 16) (by decide +kernel))) rfl
theorem fz_X7_9 : Cond.fieldLink RX7 9 (TX7 0).1 (TX7 0).2.1 (TX7 0).2.2.1 ∈ wT := wu (wtab_2 (List.mem_of_getElem? (i := 149) (by decide +kernel))) rfl
theorem wz_cl_7_13 : Cond.classLink RX7 13 RX2 ∈ wT := wu (wtab_1 (List.mem_of_getElem? (i := 19) (by decide +kernel))) rfl
theorem wz_ml_7_15 : Cond.methodLink RX7 15 yX2_init ∈ wT := wu (wtab_1 (List.mem_of_getElem? (i := 21) (by decide +kernel))) rfl
theorem fz_X7_16 : Cond.fieldLink RX7 16 (TX7 4).1 (TX7 4).2.1 (TX7 4).2.2.1 ∈ wT := wu (wtab_2 (List.mem_of_getElem? (i := 153) (by decide +kernel))) rfl
theorem fz_X7_20 : Cond.fieldLink RX7 20 (TX7 5).1 (TX7 5).2.1 (TX7 5).2.2.1 ∈ wT := wu (wtab_2 (List.mem_of_getElem? (i := 154) (by decide +kernel))) rfl
theorem wz_cl_7_23 : Cond.classLink RX7 23 RX5 ∈ wT := wu (wtab_2 (List.mem_of_getElem? (i := 14) (by decide +kernel))) rfl
theorem wz_mn_7_25 : Cond.methodLinkNest RX7 25 yX5_init "CallCourt" ∈ wN := wn (wtab_2 (List.mem_of_getElem? (i := 16) (by decide +kernel))) rfl
theorem fz_X7_26 : Cond.fieldLink RX7 26 (TX7 6).1 (TX7 6).2.1 (TX7 6).2.2.1 ∈ wT := wu (wtab_2 (List.mem_of_getElem? (i := 155) (by decide +kernel))) rfl
theorem wz_cl_7_30 : Cond.classLink RX7 30 RX4 ∈ wT := wu (wtab_2 (List.mem_of_getElem? (i := 40) (by decide +kernel))) rfl
theorem wz_ml_7_32 : Cond.methodLink RX7 32 yX4_init ∈ wT := wu (wtab_2 (List.mem_of_getElem? (i := 42) (by decide +kernel))) rfl
theorem fz_X7_35 : Cond.fieldLink RX7 35 (TX7 7).1 (TX7 7).2.1 (TX7 7).2.2.1 ∈ wT := wu (wtab_2 (List.mem_of_getElem? (i := 156) (by decide +kernel))) rfl
theorem wz_cl_7_39 : Cond.classLink RX7 39 RX1 ∈ wT := wu (wtab_2 (List.mem_of_getElem? (i := 116) (by decide +kernel))) rfl
theorem wz_ml_7_41 : Cond.methodLink RX7 41 yX1_init ∈ wT := wu (wtab_2 (List.mem_of_getElem? (i := 118) (by decide +kernel))) rfl
theorem fz_X7_44 : Cond.fieldLink RX7 44 (TX7 8).1 (TX7 8).2.1 (TX7 8).2.2.1 ∈ wT := wu (wtab_2 (List.mem_of_getElem? (i := 157) (by decide +kernel))) rfl
theorem wz_cd0 : Cond.code yX0_init cX0_init 2 none ∈ wT := wu (wtab_2 (List.mem_of_getElem? (i := 50) (by rfl))) rfl
theorem wz_ii0 : Cond.instanceMethod yX0_init ∈ wT := wu (wtab_2 (List.mem_of_getElem? (i := 49) (by decide +kernel))) rfl
theorem wz_in0 : Cond.instantiable RX0 5 ∈ wT := wu (wtab_2 (List.mem_of_getElem? (i := 47) (by decide +kernel))) rfl
theorem wz_dd0 : yX0_init.cls ≠ "java/lang/invoke/MethodHandle" ∧ yX0_init.cls ≠ "java/lang/invoke/VarHandle" ∧ (parseMethodDescriptor yX0_init.desc).map (fun d => d.parameters.length) = some 1 := ⟨by decide +kernel, by decide +kernel, by decide +kernel⟩
theorem wz_cd1 : Cond.code yX1_init cX1_init 2 none ∈ wT := wu (wtab_2 (List.mem_of_getElem? (i := 120) (by rfl))) rfl
theorem wz_ii1 : Cond.instanceMethod yX1_init ∈ wT := wu (wtab_2 (List.mem_of_getElem? (i := 119) (by decide +kernel))) rfl
theorem wz_in1 : Cond.instantiable RX1 8 ∈ wT := wu (wtab_2 (List.mem_of_getElem? (i := 117) (by decide +kernel))) rfl
theorem wz_dd1 : yX1_init.cls ≠ "java/lang/invoke/MethodHandle" ∧ yX1_init.cls ≠ "java/lang/invoke/VarHandle" ∧ (parseMethodDescriptor yX1_init.desc).map (fun d => d.parameters.length) = some 1 := ⟨by decide +kernel, by decide +kernel, by decide +kernel⟩
theorem wz_cd2 : Cond.code yX2_init cX2_init 2 none ∈ wT := wu (wtab_1 (List.mem_of_getElem? (i := 23) (by rfl))) rfl
theorem wz_ii2 : Cond.instanceMethod yX2_init ∈ wT := wu (wtab_1 (List.mem_of_getElem? (i := 22) (by decide +kernel))) rfl
theorem wz_in2 : Cond.instantiable RX2 9 ∈ wT := wu (wtab_1 (List.mem_of_getElem? (i := 20) (by decide +kernel))) rfl
theorem wz_dd2 : yX2_init.cls ≠ "java/lang/invoke/MethodHandle" ∧ yX2_init.cls ≠ "java/lang/invoke/VarHandle" ∧ (parseMethodDescriptor yX2_init.desc).map (fun d => d.parameters.length) = some 0 := ⟨by decide +kernel, by decide +kernel, by decide +kernel⟩
theorem wz_cd3 : Cond.code yX3_init cX3_init 1 none ∈ wT := wu (wtab_1 (List.mem_of_getElem? (i := 151) (by rfl))) rfl
theorem wz_ii3 : Cond.instanceMethod yX3_init ∈ wT := wu (wtab_1 (List.mem_of_getElem? (i := 150) (by decide +kernel))) rfl
theorem wz_in3 : Cond.instantiable RX3 8 ∈ wT := wu (wtab_1 (List.mem_of_getElem? (i := 148) (by decide +kernel))) rfl
theorem wz_dd3 : yX3_init.cls ≠ "java/lang/invoke/MethodHandle" ∧ yX3_init.cls ≠ "java/lang/invoke/VarHandle" ∧ (parseMethodDescriptor yX3_init.desc).map (fun d => d.parameters.length) = some 0 := ⟨by decide +kernel, by decide +kernel, by decide +kernel⟩
theorem wz_cd4 : Cond.code yX4_init cX4_init 3 none ∈ wT := wu (wtab_2 (List.mem_of_getElem? (i := 44) (by rfl))) rfl
theorem wz_ii4 : Cond.instanceMethod yX4_init ∈ wT := wu (wtab_2 (List.mem_of_getElem? (i := 43) (by decide +kernel))) rfl
theorem wz_in4 : Cond.instantiable RX4 15 ∈ wT := wu (wtab_2 (List.mem_of_getElem? (i := 41) (by decide +kernel))) rfl
theorem wz_dd4 : yX4_init.cls ≠ "java/lang/invoke/MethodHandle" ∧ yX4_init.cls ≠ "java/lang/invoke/VarHandle" ∧ (parseMethodDescriptor yX4_init.desc).map (fun d => d.parameters.length) = some 2 := ⟨by decide +kernel, by decide +kernel, by decide +kernel⟩
theorem wz_cd5 : Cond.code yX5_init cX5_init 1 none ∈ wT := wu (wtab_2 (List.mem_of_getElem? (i := 18) (by rfl))) rfl
theorem wz_ii5 : Cond.instanceMethod yX5_init ∈ wT := wu (wtab_2 (List.mem_of_getElem? (i := 17) (by decide +kernel))) rfl
theorem wz_in5 : Cond.instantiable RX5 5 ∈ wT := wu (wtab_2 (List.mem_of_getElem? (i := 15) (by decide +kernel))) rfl
theorem wz_dd5 : yX5_init.cls ≠ "java/lang/invoke/MethodHandle" ∧ yX5_init.cls ≠ "java/lang/invoke/VarHandle" ∧ (parseMethodDescriptor yX5_init.desc).map (fun d => d.parameters.length) = some 0 := ⟨by decide +kernel, by decide +kernel, by decide +kernel⟩
theorem wz_cd6 : Cond.code yX6_init cX6_init 2 none ∈ wT := wu (wtab_1 (List.mem_of_getElem? (i := 32) (by rfl))) rfl
theorem wz_ii6 : Cond.instanceMethod yX6_init ∈ wT := wu (wtab_1 (List.mem_of_getElem? (i := 31) (by decide +kernel))) rfl
theorem wz_in6 : Cond.instantiable RX6 20 ∈ wT := wu (wtab_1 (List.mem_of_getElem? (i := 29) (by decide +kernel))) rfl
theorem wz_dd6 : yX6_init.cls ≠ "java/lang/invoke/MethodHandle" ∧ yX6_init.cls ≠ "java/lang/invoke/VarHandle" ∧ (parseMethodDescriptor yX6_init.desc).map (fun d => d.parameters.length) = some 1 := ⟨by decide +kernel, by decide +kernel, by decide +kernel⟩
theorem wz_cd7 : Cond.code yX7_init cX7_init 1 none ∈ wT := wu (wtab_1 (List.mem_of_getElem? (i := 15) (by rfl))) rfl
theorem wz_ii7 : Cond.instanceMethod yX7_init ∈ wT := wu (wtab_1 (List.mem_of_getElem? (i := 14) (by decide +kernel))) rfl
theorem wz_in7 : Cond.instantiable RX7 9 ∈ wT := wu (wtab_1 (List.mem_of_getElem? (i := 12) (by decide +kernel))) rfl
theorem wz_dd7 : yX7_init.cls ≠ "java/lang/invoke/MethodHandle" ∧ yX7_init.cls ≠ "java/lang/invoke/VarHandle" ∧ (parseMethodDescriptor yX7_init.desc).map (fun d => d.parameters.length) = some 0 := ⟨by decide +kernel, by decide +kernel, by decide +kernel⟩
theorem wz_cd8 : Cond.code yX8_init cX8_init 1 none ∈ wT := wu (wtab_5 (List.mem_of_getElem? (i := 23) (by rfl))) rfl
theorem wz_ii8 : Cond.instanceMethod yX8_init ∈ wT := wu (wtab_5 (List.mem_of_getElem? (i := 22) (by decide +kernel))) rfl
theorem wz_in8 : Cond.instantiable RX8 60 ∈ wT := wu (wtab_5 (List.mem_of_getElem? (i := 20) (by decide +kernel))) rfl
theorem wz_dd8 : yX8_init.cls ≠ "java/lang/invoke/MethodHandle" ∧ yX8_init.cls ≠ "java/lang/invoke/VarHandle" ∧ (parseMethodDescriptor yX8_init.desc).map (fun d => d.parameters.length) = some 0 := ⟨by decide +kernel, by decide +kernel, by decide +kernel⟩
