theorem ob_i : Cond.instanceMethod Lib.objectInit ∈ q_T := q_m1 28 rfl rfl
theorem ob_c : Cond.code Lib.objectInit ⟨#[0xb1]⟩ 1 none ∈ q_T := q_m1 29 rfl rfl
theorem cn_1 : Cond.classLink RJ7 317 "[I" ∈ q_T := q_m3 154 rfl rfl
theorem cn_2 : Cond.sameMethod "[I" "java/lang/Object" "clone" "()Ljava/lang/Object;" ∈ q_T := q_m3 149 rfl rfl
theorem cn_3 : Cond.native ⟨"java/lang/Object", "clone", "()Ljava/lang/Object;"⟩ ∈ q_T := q_m3 150 rfl rfl
theorem cn_4 : Cond.instanceMethod ⟨"java/lang/Object", "clone", "()Ljava/lang/Object;"⟩ ∈ q_T := q_m3 151 rfl rfl
theorem cn_5 : Cond.selects "[I" ⟨"[I", "clone", "()Ljava/lang/Object;"⟩ ⟨"java/lang/Object", "clone", "()Ljava/lang/Object;"⟩ ∈ q_T := q_m3 152 rfl rfl
theorem aw_int : Cond.arrayClass .int ∈ q_T := q_m1 86 rfl rfl
theorem aw_byte : Cond.arrayClass .byte ∈ q_T := q_m1 45 rfl rfl
theorem aw_long : Cond.arrayClass .long ∈ q_T := q_m2 29 rfl rfl
theorem aw_boolean : Cond.arrayClass .boolean ∈ q_T := q_m6 3 rfl rfl
theorem cl_mm : Cond.classLink RX8 41 "[[I" ∈ q_T := q_m2 97 rfl rfl
theorem fs_71 : Cond.fieldLink "TugRope$Rope" 71 "TugRope$Rope" "ROWS_OF" "[I" ∈ q_T := q_m4 124 rfl rfl
theorem fl_11_39 : q_L RX11 39 11 3 (.array (.object "TugRope$Rule")) true := ⟨RX11, TX11, 10, tyX11, q_FX11, by decide, q_m2 130 rfl rfl, rfl, rfl⟩
theorem fl_11_26 : q_L RX11 26 11 1 (.object "TugRope$RopeReader") true := ⟨RX11, TX11, 10, tyX11, q_FX11, by decide, q_m2 128 rfl rfl, rfl, rfl⟩
theorem fl_11_33 : q_L RX11 33 11 2 (.object "TugRope$RuleReader") true := ⟨RX11, TX11, 10, tyX11, q_FX11, by decide, q_m2 129 rfl rfl, rfl, rfl⟩
theorem ff_10_21 : ∃ (Cn : String) (T : u_T) (N : Nat) (ty : Nat → FieldType), q_F 10 Cn T N ty ∧ 6 < N ∧ Cond.fieldLink RX10 21 (T 6).1 (T 6).2.1 (T 6).2.2.1 ∈ q_T ∧ ty 6 = .array .int ∧ (T 6).2.2.2 = true ∧ (T 6).1 = RX10 := ⟨RX10, TX10, 7, tyX10, q_FX10, by decide, q_m1 171 rfl rfl, rfl, rfl, rfl⟩
theorem ff_10_18 : ∃ (Cn : String) (T : u_T) (N : Nat) (ty : Nat → FieldType), q_F 10 Cn T N ty ∧ 5 < N ∧ Cond.fieldLink RX10 18 (T 5).1 (T 5).2.1 (T 5).2.2.1 ∈ q_T ∧ ty 5 = .array .int ∧ (T 5).2.2.2 = true ∧ (T 5).1 = RX10 := ⟨RX10, TX10, 7, tyX10, q_FX10, by decide, q_m1 167 rfl rfl, rfl, rfl, rfl⟩
theorem ff_10_15 : ∃ (Cn : String) (T : u_T) (N : Nat) (ty : Nat → FieldType), q_F 10 Cn T N ty ∧ 4 < N ∧ Cond.fieldLink RX10 15 (T 4).1 (T 4).2.1 (T 4).2.2.1 ∈ q_T ∧ ty 4 = .array .int ∧ (T 4).2.2.2 = true ∧ (T 4).1 = RX10 := ⟨RX10, TX10, 7, tyX10, q_FX10, by decide, q_m1 164 rfl rfl, rfl, rfl, rfl⟩
theorem ff_10_9 : ∃ (Cn : String) (T : u_T) (N : Nat) (ty : Nat → FieldType), q_F 10 Cn T N ty ∧ 3 < N ∧ Cond.fieldLink RX10 9 (T 3).1 (T 3).2.1 (T 3).2.2.1 ∈ q_T ∧ ty 3 = .array .int ∧ (T 3).2.2.2 = true ∧ (T 3).1 = RX10 := ⟨RX10, TX10, 7, tyX10, q_FX10, by decide, q_m1 160 rfl rfl, rfl, rfl, rfl⟩
theorem ff_0_26 : ∃ (Cn : String) (T : u_T) (N : Nat) (ty : Nat → FieldType), q_F 0 Cn T N ty ∧ 6 < N ∧ Cond.fieldLink RX0 26 (T 6).1 (T 6).2.1 (T 6).2.2.1 ∈ q_T ∧ ty 6 = .array .int ∧ (T 6).2.2.2 = true ∧ (T 6).1 = RX0 := ⟨RX0, TX0, 7, tyX0, q_FX0, by decide, q_m1 204 rfl rfl, rfl, rfl, rfl⟩
theorem ff_0_22 : ∃ (Cn : String) (T : u_T) (N : Nat) (ty : Nat → FieldType), q_F 0 Cn T N ty ∧ 5 < N ∧ Cond.fieldLink RX0 22 (T 5).1 (T 5).2.1 (T 5).2.2.1 ∈ q_T ∧ ty 5 = .array .int ∧ (T 5).2.2.2 = true ∧ (T 5).1 = RX0 := ⟨RX0, TX0, 7, tyX0, q_FX0, by decide, q_m1 203 rfl rfl, rfl, rfl, rfl⟩
theorem ff_0_12 : ∃ (Cn : String) (T : u_T) (N : Nat) (ty : Nat → FieldType), q_F 0 Cn T N ty ∧ 1 < N ∧ Cond.fieldLink RX0 12 (T 1).1 (T 1).2.1 (T 1).2.2.1 ∈ q_T ∧ ty 1 = .object "TugRope$Tug" ∧ (T 1).2.2.2 = true ∧ (T 1).1 = RX0 := ⟨RX0, TX0, 7, tyX0, q_FX0, by decide, q_m1 192 rfl rfl, rfl, rfl, rfl⟩
theorem ff_1_27 : ∃ (Cn : String) (T : u_T) (N : Nat) (ty : Nat → FieldType), q_F 1 Cn T N ty ∧ 6 < N ∧ Cond.fieldLink RX1 27 (T 6).1 (T 6).2.1 (T 6).2.2.1 ∈ q_T ∧ ty 6 = .array .long ∧ (T 6).2.2.2 = true ∧ (T 6).1 = RX1 := ⟨RX1, TX1, 7, tyX1, q_FX1, by decide, q_m2 13 rfl rfl, rfl, rfl, rfl⟩
theorem ff_1_23 : ∃ (Cn : String) (T : u_T) (N : Nat) (ty : Nat → FieldType), q_F 1 Cn T N ty ∧ 5 < N ∧ Cond.fieldLink RX1 23 (T 5).1 (T 5).2.1 (T 5).2.2.1 ∈ q_T ∧ ty 5 = .array .long ∧ (T 5).2.2.2 = true ∧ (T 5).1 = RX1 := ⟨RX1, TX1, 7, tyX1, q_FX1, by decide, q_m2 12 rfl rfl, rfl, rfl, rfl⟩
theorem ff_1_18 : ∃ (Cn : String) (T : u_T) (N : Nat) (ty : Nat → FieldType), q_F 1 Cn T N ty ∧ 4 < N ∧ Cond.fieldLink RX1 18 (T 4).1 (T 4).2.1 (T 4).2.2.1 ∈ q_T ∧ ty 4 = .array .int ∧ (T 4).2.2.2 = true ∧ (T 4).1 = RX1 := ⟨RX1, TX1, 7, tyX1, q_FX1, by decide, q_m2 11 rfl rfl, rfl, rfl, rfl⟩
theorem ff_1_15 : ∃ (Cn : String) (T : u_T) (N : Nat) (ty : Nat → FieldType), q_F 1 Cn T N ty ∧ 3 < N ∧ Cond.fieldLink RX1 15 (T 3).1 (T 3).2.1 (T 3).2.2.1 ∈ q_T ∧ ty 3 = .array .int ∧ (T 3).2.2.2 = true ∧ (T 3).1 = RX1 := ⟨RX1, TX1, 7, tyX1, q_FX1, by decide, q_m2 10 rfl rfl, rfl, rfl, rfl⟩
theorem ff_1_9 : ∃ (Cn : String) (T : u_T) (N : Nat) (ty : Nat → FieldType), q_F 1 Cn T N ty ∧ 2 < N ∧ Cond.fieldLink RX1 9 (T 2).1 (T 2).2.1 (T 2).2.2.1 ∈ q_T ∧ ty 2 = .array .int ∧ (T 2).2.2.2 = true ∧ (T 2).1 = RX1 := ⟨RX1, TX1, 7, tyX1, q_FX1, by decide, q_m2 9 rfl rfl, rfl, rfl, rfl⟩
theorem ff_2_11 : ∃ (Cn : String) (T : u_T) (N : Nat) (ty : Nat → FieldType), q_F 2 Cn T N ty ∧ 0 < N ∧ Cond.fieldLink RX2 11 (T 0).1 (T 0).2.1 (T 0).2.2.1 ∈ q_T ∧ ty 0 = .array (.object "TugRope$Tug") ∧ (T 0).2.2.2 = true ∧ (T 0).1 = RX2 := ⟨RX2, TX2, 3, tyX2, q_FX2, by decide, q_m1 229 rfl rfl, rfl, rfl, rfl⟩
theorem ff_3_24 : ∃ (Cn : String) (T : u_T) (N : Nat) (ty : Nat → FieldType), q_F 3 Cn T N ty ∧ 3 < N ∧ Cond.fieldLink RX3 24 (T 3).1 (T 3).2.1 (T 3).2.2.1 ∈ q_T ∧ ty 3 = .array .int ∧ (T 3).2.2.2 = true ∧ (T 3).1 = RX3 := ⟨RX3, TX3, 9, tyX3, q_FX3, by decide, q_m1 55 rfl rfl, rfl, rfl, rfl⟩
theorem ff_3_21 : ∃ (Cn : String) (T : u_T) (N : Nat) (ty : Nat → FieldType), q_F 3 Cn T N ty ∧ 2 < N ∧ Cond.fieldLink RX3 21 (T 2).1 (T 2).2.1 (T 2).2.2.1 ∈ q_T ∧ ty 2 = .array .int ∧ (T 2).2.2.2 = true ∧ (T 2).1 = RX3 := ⟨RX3, TX3, 9, tyX3, q_FX3, by decide, q_m1 54 rfl rfl, rfl, rfl, rfl⟩
theorem ff_3_17 : ∃ (Cn : String) (T : u_T) (N : Nat) (ty : Nat → FieldType), q_F 3 Cn T N ty ∧ 1 < N ∧ Cond.fieldLink RX3 17 (T 1).1 (T 1).2.1 (T 1).2.2.1 ∈ q_T ∧ ty 1 = .array .int ∧ (T 1).2.2.2 = true ∧ (T 1).1 = RX3 := ⟨RX3, TX3, 9, tyX3, q_FX3, by decide, q_m1 53 rfl rfl, rfl, rfl, rfl⟩
theorem ff_3_11 : ∃ (Cn : String) (T : u_T) (N : Nat) (ty : Nat → FieldType), q_F 3 Cn T N ty ∧ 0 < N ∧ Cond.fieldLink RX3 11 (T 0).1 (T 0).2.1 (T 0).2.2.1 ∈ q_T ∧ ty 0 = .object "TugRope$Tape" ∧ (T 0).2.2.2 = true ∧ (T 0).1 = RX3 := ⟨RX3, TX3, 9, tyX3, q_FX3, by decide, q_m1 52 rfl rfl, rfl, rfl, rfl⟩
theorem ff_4_21 : ∃ (Cn : String) (T : u_T) (N : Nat) (ty : Nat → FieldType), q_F 4 Cn T N ty ∧ 7 < N ∧ Cond.fieldLink RX4 21 (T 7).1 (T 7).2.1 (T 7).2.2.1 ∈ q_T ∧ ty 7 = .array .int ∧ (T 7).2.2.2 = true ∧ (T 7).1 = RX4 := ⟨RX4, TX4, 8, tyX4, q_FX4, by decide, q_m2 76 rfl rfl, rfl, rfl, rfl⟩
theorem ff_4_18 : ∃ (Cn : String) (T : u_T) (N : Nat) (ty : Nat → FieldType), q_F 4 Cn T N ty ∧ 6 < N ∧ Cond.fieldLink RX4 18 (T 6).1 (T 6).2.1 (T 6).2.2.1 ∈ q_T ∧ ty 6 = .array .int ∧ (T 6).2.2.2 = true ∧ (T 6).1 = RX4 := ⟨RX4, TX4, 8, tyX4, q_FX4, by decide, q_m2 71 rfl rfl, rfl, rfl, rfl⟩
theorem ff_4_15 : ∃ (Cn : String) (T : u_T) (N : Nat) (ty : Nat → FieldType), q_F 4 Cn T N ty ∧ 5 < N ∧ Cond.fieldLink RX4 15 (T 5).1 (T 5).2.1 (T 5).2.2.1 ∈ q_T ∧ ty 5 = .array .int ∧ (T 5).2.2.2 = true ∧ (T 5).1 = RX4 := ⟨RX4, TX4, 8, tyX4, q_FX4, by decide, q_m2 66 rfl rfl, rfl, rfl, rfl⟩
theorem ff_4_9 : ∃ (Cn : String) (T : u_T) (N : Nat) (ty : Nat → FieldType), q_F 4 Cn T N ty ∧ 4 < N ∧ Cond.fieldLink RX4 9 (T 4).1 (T 4).2.1 (T 4).2.2.1 ∈ q_T ∧ ty 4 = .array .int ∧ (T 4).2.2.2 = true ∧ (T 4).1 = RX4 := ⟨RX4, TX4, 8, tyX4, q_FX4, by decide, q_m2 63 rfl rfl, rfl, rfl, rfl⟩
theorem ff_5_9 : ∃ (Cn : String) (T : u_T) (N : Nat) (ty : Nat → FieldType), q_F 5 Cn T N ty ∧ 0 < N ∧ Cond.fieldLink RX5 9 (T 0).1 (T 0).2.1 (T 0).2.2.1 ∈ q_T ∧ ty 0 = .object "TugRope$Reader" ∧ (T 0).2.2.2 = true ∧ (T 0).1 = RX5 := ⟨RX5, TX5, 2, tyX5, q_FX5, by decide, q_m1 93 rfl rfl, rfl, rfl, rfl⟩
theorem ff_6_13 : ∃ (Cn : String) (T : u_T) (N : Nat) (ty : Nat → FieldType), q_F 6 Cn T N ty ∧ 1 < N ∧ Cond.fieldLink RX6 13 (T 1).1 (T 1).2.1 (T 1).2.2.1 ∈ q_T ∧ ty 1 = .array .int ∧ (T 1).2.2.2 = true ∧ (T 1).1 = RX6 := ⟨RX6, TX6, 2, tyX6, q_FX6, by decide, q_m3 166 rfl rfl, rfl, rfl, rfl⟩
theorem ff_6_7 : ∃ (Cn : String) (T : u_T) (N : Nat) (ty : Nat → FieldType), q_F 6 Cn T N ty ∧ 0 < N ∧ Cond.fieldLink RX6 7 (T 0).1 (T 0).2.1 (T 0).2.2.1 ∈ q_T ∧ ty 0 = .array .int ∧ (T 0).2.2.2 = true ∧ (T 0).1 = RX6 := ⟨RX6, TX6, 2, tyX6, q_FX6, by decide, q_m3 165 rfl rfl, rfl, rfl, rfl⟩
theorem ff_7_24 : ∃ (Cn : String) (T : u_T) (N : Nat) (ty : Nat → FieldType), q_F 7 Cn T N ty ∧ 5 < N ∧ Cond.fieldLink RX7 24 (T 5).1 (T 5).2.1 (T 5).2.2.1 ∈ q_T ∧ ty 5 = .array .int ∧ (T 5).2.2.2 = true ∧ (T 5).1 = RX7 := ⟨RX7, TX7, 9, tyX7, q_FX7, by decide, q_m1 111 rfl rfl, rfl, rfl, rfl⟩
theorem ff_7_21 : ∃ (Cn : String) (T : u_T) (N : Nat) (ty : Nat → FieldType), q_F 7 Cn T N ty ∧ 3 < N ∧ Cond.fieldLink RX7 21 (T 3).1 (T 3).2.1 (T 3).2.2.1 ∈ q_T ∧ ty 3 = .array .int ∧ (T 3).2.2.2 = true ∧ (T 3).1 = RX7 := ⟨RX7, TX7, 9, tyX7, q_FX7, by decide, q_m1 109 rfl rfl, rfl, rfl, rfl⟩
theorem ff_7_17 : ∃ (Cn : String) (T : u_T) (N : Nat) (ty : Nat → FieldType), q_F 7 Cn T N ty ∧ 1 < N ∧ Cond.fieldLink RX7 17 (T 1).1 (T 1).2.1 (T 1).2.2.1 ∈ q_T ∧ ty 1 = .array .int ∧ (T 1).2.2.2 = true ∧ (T 1).1 = RX7 := ⟨RX7, TX7, 9, tyX7, q_FX7, by decide, q_m1 107 rfl rfl, rfl, rfl, rfl⟩
theorem ff_7_9 : ∃ (Cn : String) (T : u_T) (N : Nat) (ty : Nat → FieldType), q_F 7 Cn T N ty ∧ 0 < N ∧ Cond.fieldLink RX7 9 (T 0).1 (T 0).2.1 (T 0).2.2.1 ∈ q_T ∧ ty 0 = .object "TugRope$Reader" ∧ (T 0).2.2.2 = true ∧ (T 0).1 = RX7 := ⟨RX7, TX7, 9, tyX7, q_FX7, by decide, q_m1 106 rfl rfl, rfl, rfl, rfl⟩
theorem ff_8_50 : ∃ (Cn : String) (T : u_T) (N : Nat) (ty : Nat → FieldType), q_F 8 Cn T N ty ∧ 8 < N ∧ Cond.fieldLink RX8 50 (T 8).1 (T 8).2.1 (T 8).2.2.1 ∈ q_T ∧ ty 8 = .array .int ∧ (T 8).2.2.2 = true ∧ (T 8).1 = RX8 := ⟨RX8, TX8, 9, tyX8, q_FX8, by decide, q_m2 107 rfl rfl, rfl, rfl, rfl⟩
theorem ff_8_46 : ∃ (Cn : String) (T : u_T) (N : Nat) (ty : Nat → FieldType), q_F 8 Cn T N ty ∧ 7 < N ∧ Cond.fieldLink RX8 46 (T 7).1 (T 7).2.1 (T 7).2.2.1 ∈ q_T ∧ ty 7 = .array .int ∧ (T 7).2.2.2 = true ∧ (T 7).1 = RX8 := ⟨RX8, TX8, 9, tyX8, q_FX8, by decide, q_m2 106 rfl rfl, rfl, rfl, rfl⟩
theorem ff_8_43 : ∃ (Cn : String) (T : u_T) (N : Nat) (ty : Nat → FieldType), q_F 8 Cn T N ty ∧ 6 < N ∧ Cond.fieldLink RX8 43 (T 6).1 (T 6).2.1 (T 6).2.2.1 ∈ q_T ∧ ty 6 = .array (.array .int) ∧ (T 6).2.2.2 = true ∧ (T 6).1 = RX8 := ⟨RX8, TX8, 9, tyX8, q_FX8, by decide, q_m2 105 rfl rfl, rfl, rfl, rfl⟩
theorem ff_8_37 : ∃ (Cn : String) (T : u_T) (N : Nat) (ty : Nat → FieldType), q_F 8 Cn T N ty ∧ 5 < N ∧ Cond.fieldLink RX8 37 (T 5).1 (T 5).2.1 (T 5).2.2.1 ∈ q_T ∧ ty 5 = .array .long ∧ (T 5).2.2.2 = true ∧ (T 5).1 = RX8 := ⟨RX8, TX8, 9, tyX8, q_FX8, by decide, q_m2 104 rfl rfl, rfl, rfl, rfl⟩
theorem ff_8_33 : ∃ (Cn : String) (T : u_T) (N : Nat) (ty : Nat → FieldType), q_F 8 Cn T N ty ∧ 4 < N ∧ Cond.fieldLink RX8 33 (T 4).1 (T 4).2.1 (T 4).2.2.1 ∈ q_T ∧ ty 4 = .object "TugRope$Rope" ∧ (T 4).2.2.2 = true ∧ (T 4).1 = RX8 := ⟨RX8, TX8, 9, tyX8, q_FX8, by decide, q_m2 103 rfl rfl, rfl, rfl, rfl⟩
theorem ff_8_26 : ∃ (Cn : String) (T : u_T) (N : Nat) (ty : Nat → FieldType), q_F 8 Cn T N ty ∧ 3 < N ∧ Cond.fieldLink RX8 26 (T 3).1 (T 3).2.1 (T 3).2.2.1 ∈ q_T ∧ ty 3 = .object "TugRope$Tug" ∧ (T 3).2.2.2 = true ∧ (T 3).1 = RX8 := ⟨RX8, TX8, 9, tyX8, q_FX8, by decide, q_m2 102 rfl rfl, rfl, rfl, rfl⟩
theorem ff_8_19 : ∃ (Cn : String) (T : u_T) (N : Nat) (ty : Nat → FieldType), q_F 8 Cn T N ty ∧ 2 < N ∧ Cond.fieldLink RX8 19 (T 2).1 (T 2).2.1 (T 2).2.2.1 ∈ q_T ∧ ty 2 = .object "TugRope$Heaver" ∧ (T 2).2.2.2 = true ∧ (T 2).1 = RX8 := ⟨RX8, TX8, 9, tyX8, q_FX8, by decide, q_m2 101 rfl rfl, rfl, rfl, rfl⟩
theorem ff_8_15 : ∃ (Cn : String) (T : u_T) (N : Nat) (ty : Nat → FieldType), q_F 8 Cn T N ty ∧ 1 < N ∧ Cond.fieldLink RX8 15 (T 1).1 (T 1).2.1 (T 1).2.2.1 ∈ q_T ∧ ty 1 = .array (.object "TugRope$Rule") ∧ (T 1).2.2.2 = true ∧ (T 1).1 = RX8 := ⟨RX8, TX8, 9, tyX8, q_FX8, by decide, q_m2 100 rfl rfl, rfl, rfl, rfl⟩
theorem ff_8_9 : ∃ (Cn : String) (T : u_T) (N : Nat) (ty : Nat → FieldType), q_F 8 Cn T N ty ∧ 0 < N ∧ Cond.fieldLink RX8 9 (T 0).1 (T 0).2.1 (T 0).2.2.1 ∈ q_T ∧ ty 0 = .object "TugRope$Game" ∧ (T 0).2.2.2 = true ∧ (T 0).1 = RX8 := ⟨RX8, TX8, 9, tyX8, q_FX8, by decide, q_m2 99 rfl rfl, rfl, rfl, rfl⟩
theorem ff_9_9 : ∃ (Cn : String) (T : u_T) (N : Nat) (ty : Nat → FieldType), q_F 9 Cn T N ty ∧ 0 < N ∧ Cond.fieldLink RX9 9 (T 0).1 (T 0).2.1 (T 0).2.2.1 ∈ q_T ∧ ty 0 = .array .byte ∧ (T 0).2.2.2 = true ∧ (T 0).1 = RX9 := ⟨RX9, TX9, 2, tyX9, q_FX9, by decide, q_m1 36 rfl rfl, rfl, rfl, rfl⟩
theorem ff_11_77 : ∃ (Cn : String) (T : u_T) (N : Nat) (ty : Nat → FieldType), q_F 11 Cn T N ty ∧ 9 < N ∧ Cond.fieldLink RX11 77 (T 9).1 (T 9).2.1 (T 9).2.2.1 ∈ q_T ∧ ty 9 = .object "TugRope$Seer" ∧ (T 9).2.2.2 = true ∧ (T 9).1 = RX11 := ⟨RX11, TX11, 10, tyX11, q_FX11, by decide, q_m2 136 rfl rfl, rfl, rfl, rfl⟩
theorem ff_11_68 : ∃ (Cn : String) (T : u_T) (N : Nat) (ty : Nat → FieldType), q_F 11 Cn T N ty ∧ 8 < N ∧ Cond.fieldLink RX11 68 (T 8).1 (T 8).2.1 (T 8).2.2.1 ∈ q_T ∧ ty 8 = .object "TugRope$Heaver" ∧ (T 8).2.2.2 = true ∧ (T 8).1 = RX11 := ⟨RX11, TX11, 10, tyX11, q_FX11, by decide, q_m2 135 rfl rfl, rfl, rfl, rfl⟩
theorem ff_11_61 : ∃ (Cn : String) (T : u_T) (N : Nat) (ty : Nat → FieldType), q_F 11 Cn T N ty ∧ 7 < N ∧ Cond.fieldLink RX11 61 (T 7).1 (T 7).2.1 (T 7).2.2.1 ∈ q_T ∧ ty 7 = .array (.object "TugRope$Game") ∧ (T 7).2.2.2 = true ∧ (T 7).1 = RX11 := ⟨RX11, TX11, 10, tyX11, q_FX11, by decide, q_m2 134 rfl rfl, rfl, rfl, rfl⟩
theorem ff_11_57 : ∃ (Cn : String) (T : u_T) (N : Nat) (ty : Nat → FieldType), q_F 11 Cn T N ty ∧ 6 < N ∧ Cond.fieldLink RX11 57 (T 6).1 (T 6).2.1 (T 6).2.2.1 ∈ q_T ∧ ty 6 = .object "TugRope$Past" ∧ (T 6).2.2.2 = true ∧ (T 6).1 = RX11 := ⟨RX11, TX11, 10, tyX11, q_FX11, by decide, q_m2 133 rfl rfl, rfl, rfl, rfl⟩
theorem ff_11_50 : ∃ (Cn : String) (T : u_T) (N : Nat) (ty : Nat → FieldType), q_F 11 Cn T N ty ∧ 5 < N ∧ Cond.fieldLink RX11 50 (T 5).1 (T 5).2.1 (T 5).2.2.1 ∈ q_T ∧ ty 5 = .object "TugRope$Game" ∧ (T 5).2.2.2 = true ∧ (T 5).1 = RX11 := ⟨RX11, TX11, 10, tyX11, q_FX11, by decide, q_m2 132 rfl rfl, rfl, rfl, rfl⟩
theorem ff_11_39 : ∃ (Cn : String) (T : u_T) (N : Nat) (ty : Nat → FieldType), q_F 11 Cn T N ty ∧ 3 < N ∧ Cond.fieldLink RX11 39 (T 3).1 (T 3).2.1 (T 3).2.2.1 ∈ q_T ∧ ty 3 = .array (.object "TugRope$Rule") ∧ (T 3).2.2.2 = true ∧ (T 3).1 = RX11 := ⟨RX11, TX11, 10, tyX11, q_FX11, by decide, q_m2 130 rfl rfl, rfl, rfl, rfl⟩
theorem ff_11_33 : ∃ (Cn : String) (T : u_T) (N : Nat) (ty : Nat → FieldType), q_F 11 Cn T N ty ∧ 2 < N ∧ Cond.fieldLink RX11 33 (T 2).1 (T 2).2.1 (T 2).2.2.1 ∈ q_T ∧ ty 2 = .object "TugRope$RuleReader" ∧ (T 2).2.2.2 = true ∧ (T 2).1 = RX11 := ⟨RX11, TX11, 10, tyX11, q_FX11, by decide, q_m2 129 rfl rfl, rfl, rfl, rfl⟩
theorem ff_11_26 : ∃ (Cn : String) (T : u_T) (N : Nat) (ty : Nat → FieldType), q_F 11 Cn T N ty ∧ 1 < N ∧ Cond.fieldLink RX11 26 (T 1).1 (T 1).2.1 (T 1).2.2.1 ∈ q_T ∧ ty 1 = .object "TugRope$RopeReader" ∧ (T 1).2.2.2 = true ∧ (T 1).1 = RX11 := ⟨RX11, TX11, 10, tyX11, q_FX11, by decide, q_m2 128 rfl rfl, rfl, rfl, rfl⟩
theorem ff_11_10 : ∃ (Cn : String) (T : u_T) (N : Nat) (ty : Nat → FieldType), q_F 11 Cn T N ty ∧ 0 < N ∧ Cond.fieldLink RX11 10 (T 0).1 (T 0).2.1 (T 0).2.2.1 ∈ q_T ∧ ty 0 = .object "TugRope$Tape" ∧ (T 0).2.2.2 = true ∧ (T 0).1 = RX11 := ⟨RX11, TX11, 10, tyX11, q_FX11, by decide, q_m2 127 rfl rfl, rfl, rfl, rfl⟩
theorem ff_12_80 : ∃ (Cn : String) (T : u_T) (N : Nat) (ty : Nat → FieldType), q_F 12 Cn T N ty ∧ 36 < N ∧ Cond.fieldLink RX12 80 (T 36).1 (T 36).2.1 (T 36).2.2.1 ∈ q_T ∧ ty 36 = .array .boolean ∧ (T 36).2.2.2 = true ∧ (T 36).1 = RX12 := ⟨RX12, TX12, 37, tyX12, q_FX12, by decide, q_m5 167 rfl rfl, rfl, rfl, rfl⟩
theorem ff_12_77 : ∃ (Cn : String) (T : u_T) (N : Nat) (ty : Nat → FieldType), q_F 12 Cn T N ty ∧ 35 < N ∧ Cond.fieldLink RX12 77 (T 35).1 (T 35).2.1 (T 35).2.2.1 ∈ q_T ∧ ty 35 = .array .int ∧ (T 35).2.2.2 = true ∧ (T 35).1 = RX12 := ⟨RX12, TX12, 37, tyX12, q_FX12, by decide, q_m5 166 rfl rfl, rfl, rfl, rfl⟩
theorem ff_12_74 : ∃ (Cn : String) (T : u_T) (N : Nat) (ty : Nat → FieldType), q_F 12 Cn T N ty ∧ 34 < N ∧ Cond.fieldLink RX12 74 (T 34).1 (T 34).2.1 (T 34).2.2.1 ∈ q_T ∧ ty 34 = .array .int ∧ (T 34).2.2.2 = true ∧ (T 34).1 = RX12 := ⟨RX12, TX12, 37, tyX12, q_FX12, by decide, q_m5 165 rfl rfl, rfl, rfl, rfl⟩
theorem ff_12_71 : ∃ (Cn : String) (T : u_T) (N : Nat) (ty : Nat → FieldType), q_F 12 Cn T N ty ∧ 33 < N ∧ Cond.fieldLink RX12 71 (T 33).1 (T 33).2.1 (T 33).2.2.1 ∈ q_T ∧ ty 33 = .array .int ∧ (T 33).2.2.2 = true ∧ (T 33).1 = RX12 := ⟨RX12, TX12, 37, tyX12, q_FX12, by decide, q_m5 164 rfl rfl, rfl, rfl, rfl⟩
theorem ff_12_68 : ∃ (Cn : String) (T : u_T) (N : Nat) (ty : Nat → FieldType), q_F 12 Cn T N ty ∧ 31 < N ∧ Cond.fieldLink RX12 68 (T 31).1 (T 31).2.1 (T 31).2.2.1 ∈ q_T ∧ ty 31 = .array .int ∧ (T 31).2.2.2 = true ∧ (T 31).1 = RX12 := ⟨RX12, TX12, 37, tyX12, q_FX12, by decide, q_m5 162 rfl rfl, rfl, rfl, rfl⟩
theorem ff_12_64 : ∃ (Cn : String) (T : u_T) (N : Nat) (ty : Nat → FieldType), q_F 12 Cn T N ty ∧ 30 < N ∧ Cond.fieldLink RX12 64 (T 30).1 (T 30).2.1 (T 30).2.2.1 ∈ q_T ∧ ty 30 = .array .boolean ∧ (T 30).2.2.2 = true ∧ (T 30).1 = RX12 := ⟨RX12, TX12, 37, tyX12, q_FX12, by decide, q_m5 161 rfl rfl, rfl, rfl, rfl⟩
theorem ff_12_61 : ∃ (Cn : String) (T : u_T) (N : Nat) (ty : Nat → FieldType), q_F 12 Cn T N ty ∧ 29 < N ∧ Cond.fieldLink RX12 61 (T 29).1 (T 29).2.1 (T 29).2.2.1 ∈ q_T ∧ ty 29 = .array .int ∧ (T 29).2.2.2 = true ∧ (T 29).1 = RX12 := ⟨RX12, TX12, 37, tyX12, q_FX12, by decide, q_m5 160 rfl rfl, rfl, rfl, rfl⟩
theorem ff_12_58 : ∃ (Cn : String) (T : u_T) (N : Nat) (ty : Nat → FieldType), q_F 12 Cn T N ty ∧ 28 < N ∧ Cond.fieldLink RX12 58 (T 28).1 (T 28).2.1 (T 28).2.2.1 ∈ q_T ∧ ty 28 = .array .int ∧ (T 28).2.2.2 = true ∧ (T 28).1 = RX12 := ⟨RX12, TX12, 37, tyX12, q_FX12, by decide, q_m5 159 rfl rfl, rfl, rfl, rfl⟩
theorem ff_12_55 : ∃ (Cn : String) (T : u_T) (N : Nat) (ty : Nat → FieldType), q_F 12 Cn T N ty ∧ 27 < N ∧ Cond.fieldLink RX12 55 (T 27).1 (T 27).2.1 (T 27).2.2.1 ∈ q_T ∧ ty 27 = .array .int ∧ (T 27).2.2.2 = true ∧ (T 27).1 = RX12 := ⟨RX12, TX12, 37, tyX12, q_FX12, by decide, q_m5 158 rfl rfl, rfl, rfl, rfl⟩
theorem ff_12_52 : ∃ (Cn : String) (T : u_T) (N : Nat) (ty : Nat → FieldType), q_F 12 Cn T N ty ∧ 25 < N ∧ Cond.fieldLink RX12 52 (T 25).1 (T 25).2.1 (T 25).2.2.1 ∈ q_T ∧ ty 25 = .array .int ∧ (T 25).2.2.2 = true ∧ (T 25).1 = RX12 := ⟨RX12, TX12, 37, tyX12, q_FX12, by decide, q_m5 156 rfl rfl, rfl, rfl, rfl⟩
theorem ff_12_49 : ∃ (Cn : String) (T : u_T) (N : Nat) (ty : Nat → FieldType), q_F 12 Cn T N ty ∧ 24 < N ∧ Cond.fieldLink RX12 49 (T 24).1 (T 24).2.1 (T 24).2.2.1 ∈ q_T ∧ ty 24 = .array .int ∧ (T 24).2.2.2 = true ∧ (T 24).1 = RX12 := ⟨RX12, TX12, 37, tyX12, q_FX12, by decide, q_m5 155 rfl rfl, rfl, rfl, rfl⟩
theorem ff_12_46 : ∃ (Cn : String) (T : u_T) (N : Nat) (ty : Nat → FieldType), q_F 12 Cn T N ty ∧ 23 < N ∧ Cond.fieldLink RX12 46 (T 23).1 (T 23).2.1 (T 23).2.2.1 ∈ q_T ∧ ty 23 = .array .int ∧ (T 23).2.2.2 = true ∧ (T 23).1 = RX12 := ⟨RX12, TX12, 37, tyX12, q_FX12, by decide, q_m5 154 rfl rfl, rfl, rfl, rfl⟩
theorem ff_12_39 : ∃ (Cn : String) (T : u_T) (N : Nat) (ty : Nat → FieldType), q_F 12 Cn T N ty ∧ 20 < N ∧ Cond.fieldLink RX12 39 (T 20).1 (T 20).2.1 (T 20).2.2.1 ∈ q_T ∧ ty 20 = .array .int ∧ (T 20).2.2.2 = true ∧ (T 20).1 = RX12 := ⟨RX12, TX12, 37, tyX12, q_FX12, by decide, q_m5 151 rfl rfl, rfl, rfl, rfl⟩
theorem ff_12_36 : ∃ (Cn : String) (T : u_T) (N : Nat) (ty : Nat → FieldType), q_F 12 Cn T N ty ∧ 19 < N ∧ Cond.fieldLink RX12 36 (T 19).1 (T 19).2.1 (T 19).2.2.1 ∈ q_T ∧ ty 19 = .array .long ∧ (T 19).2.2.2 = true ∧ (T 19).1 = RX12 := ⟨RX12, TX12, 37, tyX12, q_FX12, by decide, q_m5 150 rfl rfl, rfl, rfl, rfl⟩
theorem ff_12_32 : ∃ (Cn : String) (T : u_T) (N : Nat) (ty : Nat → FieldType), q_F 12 Cn T N ty ∧ 17 < N ∧ Cond.fieldLink RX12 32 (T 17).1 (T 17).2.1 (T 17).2.2.1 ∈ q_T ∧ ty 17 = .array .long ∧ (T 17).2.2.2 = true ∧ (T 17).1 = RX12 := ⟨RX12, TX12, 37, tyX12, q_FX12, by decide, q_m5 148 rfl rfl, rfl, rfl, rfl⟩
theorem ff_12_29 : ∃ (Cn : String) (T : u_T) (N : Nat) (ty : Nat → FieldType), q_F 12 Cn T N ty ∧ 15 < N ∧ Cond.fieldLink RX12 29 (T 15).1 (T 15).2.1 (T 15).2.2.1 ∈ q_T ∧ ty 15 = .array .int ∧ (T 15).2.2.2 = true ∧ (T 15).1 = RX12 := ⟨RX12, TX12, 37, tyX12, q_FX12, by decide, q_m5 146 rfl rfl, rfl, rfl, rfl⟩
theorem ff_12_26 : ∃ (Cn : String) (T : u_T) (N : Nat) (ty : Nat → FieldType), q_F 12 Cn T N ty ∧ 7 < N ∧ Cond.fieldLink RX12 26 (T 7).1 (T 7).2.1 (T 7).2.2.1 ∈ q_T ∧ ty 7 = .array .int ∧ (T 7).2.2.2 = true ∧ (T 7).1 = RX12 := ⟨RX12, TX12, 37, tyX12, q_FX12, by decide, q_m5 138 rfl rfl, rfl, rfl, rfl⟩
theorem ff_12_23 : ∃ (Cn : String) (T : u_T) (N : Nat) (ty : Nat → FieldType), q_F 12 Cn T N ty ∧ 6 < N ∧ Cond.fieldLink RX12 23 (T 6).1 (T 6).2.1 (T 6).2.2.1 ∈ q_T ∧ ty 6 = .array .int ∧ (T 6).2.2.2 = true ∧ (T 6).1 = RX12 := ⟨RX12, TX12, 37, tyX12, q_FX12, by decide, q_m5 137 rfl rfl, rfl, rfl, rfl⟩
theorem ff_12_20 : ∃ (Cn : String) (T : u_T) (N : Nat) (ty : Nat → FieldType), q_F 12 Cn T N ty ∧ 5 < N ∧ Cond.fieldLink RX12 20 (T 5).1 (T 5).2.1 (T 5).2.2.1 ∈ q_T ∧ ty 5 = .array .int ∧ (T 5).2.2.2 = true ∧ (T 5).1 = RX12 := ⟨RX12, TX12, 37, tyX12, q_FX12, by decide, q_m5 136 rfl rfl, rfl, rfl, rfl⟩
theorem ff_12_17 : ∃ (Cn : String) (T : u_T) (N : Nat) (ty : Nat → FieldType), q_F 12 Cn T N ty ∧ 4 < N ∧ Cond.fieldLink RX12 17 (T 4).1 (T 4).2.1 (T 4).2.2.1 ∈ q_T ∧ ty 4 = .array .int ∧ (T 4).2.2.2 = true ∧ (T 4).1 = RX12 := ⟨RX12, TX12, 37, tyX12, q_FX12, by decide, q_m5 135 rfl rfl, rfl, rfl, rfl⟩
theorem ff_12_13 : ∃ (Cn : String) (T : u_T) (N : Nat) (ty : Nat → FieldType), q_F 12 Cn T N ty ∧ 3 < N ∧ Cond.fieldLink RX12 13 (T 3).1 (T 3).2.1 (T 3).2.2.1 ∈ q_T ∧ ty 3 = .array .int ∧ (T 3).2.2.2 = true ∧ (T 3).1 = RX12 := ⟨RX12, TX12, 37, tyX12, q_FX12, by decide, q_m5 134 rfl rfl, rfl, rfl, rfl⟩
theorem ff_12_7 : ∃ (Cn : String) (T : u_T) (N : Nat) (ty : Nat → FieldType), q_F 12 Cn T N ty ∧ 0 < N ∧ Cond.fieldLink RX12 7 (T 0).1 (T 0).2.1 (T 0).2.2.1 ∈ q_T ∧ ty 0 = .array .byte ∧ (T 0).2.2.2 = true ∧ (T 0).1 = RX12 := ⟨RX12, TX12, 37, tyX12, q_FX12, by decide, q_m5 131 rfl rfl, rfl, rfl, rfl⟩
theorem cl_X0_9 : Cond.classLink RX0 9 RX10 ∈ q_T := q_m1 142 rfl rfl
theorem in_10 : Cond.instantiable RX10 7 ∈ q_T := q_m1 143 rfl rfl
theorem ni_10 : Cond.initialized RX10 ∈ q_T := q_m1 7 rfl rfl
theorem df_10 : ∀ j, j < 7 → defaultValue (tyX10 j) = vp_V [.int 0, .int 0, .int 0, .null, .null, .null, .null] j := fun j hj => match j, hj with
  | 0, _ => rfl
  | 1, _ => rfl
  | 2, _ => rfl
  | 3, _ => rfl
  | 4, _ => rfl
  | 5, _ => rfl
  | 6, _ => rfl
  | j + 7, h => absurd h (by omega)
theorem cl_X2_9 : Cond.classLink RX2 9 RX10 ∈ q_T := q_m1 226 rfl rfl
theorem cl_X7_56 : Cond.classLink RX7 56 RX6 ∈ q_T := q_m3 143 rfl rfl
theorem in_6 : Cond.instantiable RX6 2 ∈ q_T := q_m3 144 rfl rfl
theorem ni_6 : Cond.initialized RX6 ∈ q_T := q_m1 17 rfl rfl
theorem df_6 : ∀ j, j < 2 → defaultValue (tyX6 j) = vp_V [.null, .null] j := fun j hj => match j, hj with
  | 0, _ => rfl
  | 1, _ => rfl
  | j + 2, h => absurd h (by omega)
theorem cl_X8_23 : Cond.classLink RX8 23 RX10 ∈ q_T := q_m2 36 rfl rfl
theorem cl_X8_30 : Cond.classLink RX8 30 RX4 ∈ q_T := q_m2 38 rfl rfl
theorem in_4 : Cond.instantiable RX4 8 ∈ q_T := q_m2 39 rfl rfl
theorem ni_4 : Cond.initialized RX4 ∈ q_T := q_m1 11 rfl rfl
theorem df_4 : ∀ j, j < 8 → defaultValue (tyX4 j) = vp_V [.int 0, .int 0, .int 0, .int 0, .null, .null, .null, .null] j := fun j hj => match j, hj with
  | 0, _ => rfl
  | 1, _ => rfl
  | 2, _ => rfl
  | 3, _ => rfl
  | 4, _ => rfl
  | 5, _ => rfl
  | 6, _ => rfl
  | 7, _ => rfl
  | j + 8, h => absurd h (by omega)
theorem cl_X11_7 : Cond.classLink RX11 7 RX9 ∈ q_T := q_m1 30 rfl rfl
theorem in_9 : Cond.instantiable RX9 2 ∈ q_T := q_m1 31 rfl rfl
theorem ni_9 : Cond.initialized RX9 ∈ q_T := q_m1 2 rfl rfl
theorem df_9 : ∀ j, j < 2 → defaultValue (tyX9 j) = vp_V [.null, .int 0] j := fun j hj => match j, hj with
  | 0, _ => rfl
  | 1, _ => rfl
  | j + 2, h => absurd h (by omega)
theorem cl_X11_16 : Cond.classLink RX11 16 RX3 ∈ q_T := q_m1 46 rfl rfl
theorem in_3 : Cond.instantiable RX3 9 ∈ q_T := q_m1 47 rfl rfl
theorem ni_3 : Cond.initialized RX3 ∈ q_T := q_m1 3 rfl rfl
theorem df_3 : ∀ j, j < 9 → defaultValue (tyX3 j) = vp_V [.null, .null, .null, .null, .int 0, .int 0, .int 0, .int 0, .int 0] j := fun j hj => match j, hj with
  | 0, _ => rfl
  | 1, _ => rfl
  | 2, _ => rfl
  | 3, _ => rfl
  | 4, _ => rfl
  | 5, _ => rfl
  | 6, _ => rfl
  | 7, _ => rfl
  | 8, _ => rfl
  | j + 9, h => absurd h (by omega)
theorem cl_X11_21 : Cond.classLink RX11 21 RX5 ∈ q_T := q_m1 87 rfl rfl
theorem in_5 : Cond.instantiable RX5 2 ∈ q_T := q_m1 88 rfl rfl
theorem ni_5 : Cond.initialized RX5 ∈ q_T := q_m1 4 rfl rfl
theorem df_5 : ∀ j, j < 2 → defaultValue (tyX5 j) = vp_V [.null, .int 0] j := fun j hj => match j, hj with
  | 0, _ => rfl
  | 1, _ => rfl
  | j + 2, h => absurd h (by omega)
theorem cl_X11_30 : Cond.classLink RX11 30 RX7 ∈ q_T := q_m1 100 rfl rfl
theorem in_7 : Cond.instantiable RX7 9 ∈ q_T := q_m1 101 rfl rfl
theorem ni_7 : Cond.initialized RX7 ∈ q_T := q_m1 5 rfl rfl
theorem df_7 : ∀ j, j < 9 → defaultValue (tyX7 j) = vp_V [.null, .null, .int 0, .null, .int 0, .null, .int 0, .int 0, .int 0] j := fun j hj => match j, hj with
  | 0, _ => rfl
  | 1, _ => rfl
  | 2, _ => rfl
  | 3, _ => rfl
  | 4, _ => rfl
  | 5, _ => rfl
  | 6, _ => rfl
  | 7, _ => rfl
  | 8, _ => rfl
  | j + 9, h => absurd h (by omega)
theorem cl_X11_47 : Cond.classLink RX11 47 RX0 ∈ q_T := q_m1 136 rfl rfl
theorem in_0 : Cond.instantiable RX0 7 ∈ q_T := q_m1 137 rfl rfl
theorem ni_0 : Cond.initialized RX0 ∈ q_T := q_m1 6 rfl rfl
theorem df_0 : ∀ j, j < 7 → defaultValue (tyX0 j) = vp_V [.null, .null, .int 0, .int 0, .int 0, .null, .null] j := fun j hj => match j, hj with
  | 0, _ => rfl
  | 1, _ => rfl
  | 2, _ => rfl
  | 3, _ => rfl
  | 4, _ => rfl
  | 5, _ => rfl
  | 6, _ => rfl
  | j + 7, h => absurd h (by omega)
theorem cl_X11_54 : Cond.classLink RX11 54 RX2 ∈ q_T := q_m1 220 rfl rfl
theorem in_2 : Cond.instantiable RX2 3 ∈ q_T := q_m1 221 rfl rfl
theorem ni_2 : Cond.initialized RX2 ∈ q_T := q_m1 8 rfl rfl
theorem df_2 : ∀ j, j < 3 → defaultValue (tyX2 j) = vp_V [.null, .int 0, .int 0] j := fun j hj => match j, hj with
  | 0, _ => rfl
  | 1, _ => rfl
  | 2, _ => rfl
  | j + 3, h => absurd h (by omega)
theorem cl_X11_65 : Cond.classLink RX11 65 RX1 ∈ q_T := q_m2 1 rfl rfl
theorem in_1 : Cond.instantiable RX1 7 ∈ q_T := q_m2 2 rfl rfl
theorem ni_1 : Cond.initialized RX1 ∈ q_T := q_m1 9 rfl rfl
theorem df_1 : ∀ j, j < 7 → defaultValue (tyX1 j) = vp_V [.null, .null, .null, .null, .null, .null, .null] j := fun j hj => match j, hj with
  | 0, _ => rfl
  | 1, _ => rfl
  | 2, _ => rfl
  | 3, _ => rfl
  | 4, _ => rfl
  | 5, _ => rfl
  | 6, _ => rfl
  | j + 7, h => absurd h (by omega)
theorem cl_X11_72 : Cond.classLink RX11 72 RX8 ∈ q_T := q_m2 30 rfl rfl
theorem in_8 : Cond.instantiable RX8 9 ∈ q_T := q_m2 31 rfl rfl
theorem ni_8 : Cond.initialized RX8 ∈ q_T := q_m1 10 rfl rfl
theorem df_8 : ∀ j, j < 9 → defaultValue (tyX8 j) = vp_V [.null, .null, .null, .null, .null, .null, .null, .null, .null] j := fun j hj => match j, hj with
  | 0, _ => rfl
  | 1, _ => rfl
  | 2, _ => rfl
  | 3, _ => rfl
  | 4, _ => rfl
  | 5, _ => rfl
  | 6, _ => rfl
  | 7, _ => rfl
  | 8, _ => rfl
  | j + 9, h => absurd h (by omega)
theorem cl_X11_92 : Cond.classLink RX11 92 RX4 ∈ q_T := q_m2 178 rfl rfl
theorem cl_X11_37 : Cond.classLink RX11 37 RX6 ∈ q_T := q_m1 134 rfl rfl
theorem ml_X10_3 : Cond.methodLink RX10 3 Lib.objectInit ∈ q_T := q_m1 147 rfl rfl
theorem ml_X0_3 : Cond.methodLink RX0 3 Lib.objectInit ∈ q_T := q_m1 141 rfl rfl
theorem ml_X0_11 : Cond.methodLink RX0 11 yX10_init ∈ q_T := q_m1 144 rfl rfl
theorem ml_X1_3 : Cond.methodLink RX1 3 Lib.objectInit ∈ q_T := q_m2 6 rfl rfl
theorem ml_X2_1 : Cond.methodLink RX2 1 Lib.objectInit ∈ q_T := q_m1 225 rfl rfl
theorem ml_X2_15 : Cond.methodLink RX2 15 yX10_init ∈ q_T := q_m1 228 rfl rfl
theorem ml_X3_5 : Cond.methodLink RX3 5 Lib.objectInit ∈ q_T := q_m1 51 rfl rfl
theorem ml_X3_41 : Cond.methodLink RX3 41 yX3_add ∈ q_T := q_m2 204 rfl rfl
theorem ml_X3_64 : Cond.methodLink RX3 64 yX3_numberIn ∈ q_T := q_m2 200 rfl rfl
theorem ml_X3_60 : Cond.methodLink RX3 60 yX3_behind ∈ q_T := q_m2 196 rfl rfl
theorem ml_X3_68 : Cond.methodLink RX3 68 yX3_wordIn ∈ q_T := q_m2 208 rfl rfl
theorem ml_X3_38 : Cond.methodLink RX3 38 yX3_part ∈ q_T := q_m2 192 rfl rfl
theorem ml_X4_3 : Cond.methodLink RX4 3 Lib.objectInit ∈ q_T := q_m2 43 rfl rfl
theorem ml_X4_68 : Cond.methodLink RX4 68 yX4_rowsWithAhead ∈ q_T := q_m4 120 rfl rfl
theorem ml_X5_3 : Cond.methodLink RX5 3 Lib.objectInit ∈ q_T := q_m1 92 rfl rfl
theorem ml_X5_19 : Cond.methodLink RX5 19 yX3_start ∈ q_T := q_m2 184 rfl rfl
theorem ml_X5_28 : Cond.methodLink RX5 28 yX3_goesOn ∈ q_T := q_m3 58 rfl rfl
theorem ml_X5_24 : Cond.methodLink RX5 24 yX5_readClause ∈ q_T := q_m3 25 rfl rfl
theorem ml_X6_1 : Cond.methodLink RX6 1 Lib.objectInit ∈ q_T := q_m3 164 rfl rfl
theorem ml_X7_3 : Cond.methodLink RX7 3 Lib.objectInit ∈ q_T := q_m1 105 rfl rfl
theorem ml_X7_37 : Cond.methodLink RX7 37 yX3_start ∈ q_T := q_m3 82 rfl rfl
theorem ml_X7_46 : Cond.methodLink RX7 46 yX3_goesOn ∈ q_T := q_m3 138 rfl rfl
theorem ml_X7_42 : Cond.methodLink RX7 42 yX7_readClause ∈ q_T := q_m3 83 rfl rfl
theorem ml_J7_304 : Cond.methodLink RJ7 304 Lib.Math.min.name ∈ q_T := q_m3 155 rfl rfl
theorem ml_J7_150 : Cond.methodLink RJ7 150 arraycopyName ∈ q_T := q_m3 158 rfl rfl
theorem ml_J7_316 : Cond.methodLink RJ7 316 ⟨"[I", "clone", "()Ljava/lang/Object;"⟩ ∈ q_T := q_m3 148 rfl rfl
theorem ml_X7_64 : Cond.methodLink RX7 64 yX6_init ∈ q_T := q_m3 161 rfl rfl
theorem ml_X7_58 : Cond.methodLink RX7 58 yJ7_copyOf_59c91 ∈ q_T := q_m3 145 rfl rfl
theorem ml_X8_3 : Cond.methodLink RX8 3 Lib.objectInit ∈ q_T := q_m2 35 rfl rfl
theorem ml_X8_32 : Cond.methodLink RX8 32 yX4_init ∈ q_T := q_m2 40 rfl rfl
theorem ml_X8_25 : Cond.methodLink RX8 25 yX10_init ∈ q_T := q_m2 37 rfl rfl
theorem ml_X9_1 : Cond.methodLink RX9 1 Lib.objectInit ∈ q_T := q_m1 35 rfl rfl
theorem ml_X11_1 : Cond.methodLink RX11 1 Lib.objectInit ∈ q_T := q_m1 27 rfl rfl
theorem ml_X11_74 : Cond.methodLink RX11 74 yX8_init ∈ q_T := q_m2 32 rfl rfl
theorem ml_X11_67 : Cond.methodLink RX11 67 yX1_init ∈ q_T := q_m2 3 rfl rfl
theorem ml_X11_56 : Cond.methodLink RX11 56 yX2_init ∈ q_T := q_m1 222 rfl rfl
theorem ml_X11_49 : Cond.methodLink RX11 49 yX0_init ∈ q_T := q_m1 138 rfl rfl
theorem ml_X11_32 : Cond.methodLink RX11 32 yX7_init ∈ q_T := q_m1 102 rfl rfl
theorem ml_X11_23 : Cond.methodLink RX11 23 yX5_init ∈ q_T := q_m1 89 rfl rfl
theorem ml_X11_18 : Cond.methodLink RX11 18 yX3_init ∈ q_T := q_m1 48 rfl rfl
theorem ml_X11_9 : Cond.methodLink RX11 9 yX9_init ∈ q_T := q_m1 32 rfl rfl
theorem ml_X11_107 : Cond.methodLink RX11 107 yX10_begin ∈ q_T := q_m3 62 rfl rfl
theorem ml_X11_95 : Cond.methodLink RX11 95 yX5_read ∈ q_T := q_m2 180 rfl rfl
theorem ml_X11_94 : Cond.methodLink RX11 94 yX4_init ∈ q_T := q_m2 179 rfl rfl
theorem ml_X11_125 : Cond.methodLink RX11 125 yX7_made ∈ q_T := q_m3 139 rfl rfl
theorem ml_X11_122 : Cond.methodLink RX11 122 yX7_read ∈ q_T := q_m3 78 rfl rfl
theorem ml_X11_207 : Cond.methodLink RX11 207 yX4_tipsBy ∈ q_T := q_m4 111 rfl rfl
theorem ml_X12_1 : Cond.methodLink RX12 1 Lib.objectInit ∈ q_T := q_m5 130 rfl rfl
theorem Y_X10_init : q_Y yX10_init cX10_init 1 none 0 := ⟨q_m1 146 rfl rfl, q_m1 7 rfl rfl, by decide, by decide, by decide⟩
theorem Yi_X10_init : yX10_init.name = "<init>" ∧ Cond.instanceMethod yX10_init ∈ q_T := ⟨rfl, q_m1 145 rfl rfl⟩
theorem Y_X3_behind : q_Y yX3_behind cX3_behind 6 (some .int) 3 := ⟨q_m2 199 rfl rfl, q_m1 3 rfl rfl, by decide, by decide, by decide⟩
theorem Yv_X3_behind : q_Yv yX3_behind 3 := ⟨q_m2 198 rfl rfl, q_p 1 rfl, TX3, 9, rfl, by decide⟩
theorem Y_X3_numberIn : q_Y yX3_numberIn cX3_numberIn 5 (some .int) 2 := ⟨q_m2 203 rfl rfl, q_m1 3 rfl rfl, by decide, by decide, by decide⟩
theorem Yv_X3_numberIn : q_Yv yX3_numberIn 3 := ⟨q_m2 202 rfl rfl, q_p 2 rfl, TX3, 9, rfl, by decide⟩
theorem Y_X3_add : q_Y yX3_add cX3_add 4 none 3 := ⟨q_m2 207 rfl rfl, q_m1 3 rfl rfl, by decide, by decide, by decide⟩
theorem Yv_X3_add : q_Yv yX3_add 3 := ⟨q_m2 206 rfl rfl, q_p 3 rfl, TX3, 9, rfl, by decide⟩
theorem Y_X3_wordIn : q_Y yX3_wordIn cX3_wordIn 7 (some .int) 2 := ⟨q_m2 211 rfl rfl, q_m1 3 rfl rfl, by decide, by decide, by decide⟩
theorem Yv_X3_wordIn : q_Yv yX3_wordIn 3 := ⟨q_m2 210 rfl rfl, q_p 4 rfl, TX3, 9, rfl, by decide⟩
theorem Y_X3_part : q_Y yX3_part cX3_part 4 (some .int) 1 := ⟨q_m2 195 rfl rfl, q_m1 3 rfl rfl, by decide, by decide, by decide⟩
theorem Yv_X3_part : q_Yv yX3_part 3 := ⟨q_m2 194 rfl rfl, q_p 0 rfl, TX3, 9, rfl, by decide⟩
theorem Y_X4_rowsWithAhead : q_Y yX4_rowsWithAhead cX4_rowsWithAhead 4 (some .int) 1 := ⟨q_m4 123 rfl rfl, q_m1 11 rfl rfl, by decide, by decide, by decide⟩
theorem Yv_X4_rowsWithAhead : q_Yv yX4_rowsWithAhead 4 := ⟨q_m4 122 rfl rfl, q_p 30 rfl, TX4, 8, rfl, by decide⟩
theorem Y_X3_start : q_Y yX3_start cX3_start 3 none 0 := ⟨q_m2 187 rfl rfl, q_m1 3 rfl rfl, by decide, by decide, by decide⟩
theorem Yv_X3_start : q_Yv yX3_start 3 := ⟨q_m2 185 rfl rfl, q_m2 186 rfl rfl, TX3, 9, rfl, by decide⟩
theorem Y_X5_readClause : q_Y yX5_readClause cX5_readClause 4 (some .boolean) 2 := ⟨q_m3 28 rfl rfl, q_m1 4 rfl rfl, by decide, by decide, by decide⟩
theorem Yv_X5_readClause : q_Yv yX5_readClause 5 := ⟨q_m3 27 rfl rfl, q_p 5 rfl, TX5, 2, rfl, by decide⟩
theorem Y_X3_goesOn : q_Y yX3_goesOn cX3_goesOn 1 (some .boolean) 0 := ⟨q_m3 61 rfl rfl, q_m1 3 rfl rfl, by decide, by decide, by decide⟩
theorem Yv_X3_goesOn : q_Yv yX3_goesOn 3 := ⟨q_m3 59 rfl rfl, q_m3 60 rfl rfl, TX3, 9, rfl, by decide⟩
theorem Y_X7_readClause : q_Y yX7_readClause cX7_readClause 2 (some .boolean) 1 := ⟨q_m3 86 rfl rfl, q_m1 5 rfl rfl, by decide, by decide, by decide⟩
theorem Yv_X7_readClause : q_Yv yX7_readClause 7 := ⟨q_m3 85 rfl rfl, q_p 10 rfl, TX7, 9, rfl, by decide⟩
theorem Y_J7_copyOf_59c91 : q_Y yJ7_copyOf_59c91 cJ7_copyOf_59c91 3 (some (.array .int)) 2 := ⟨q_m3 147 rfl rfl, q_m1 18 rfl rfl, by decide, by decide, by decide⟩
theorem Ys_J7_copyOf_59c91 : Cond.static yJ7_copyOf_59c91 ∈ q_T := q_m3 146 rfl rfl
theorem Y_X6_init : q_Y yX6_init cX6_init 3 none 2 := ⟨q_m3 163 rfl rfl, q_m1 17 rfl rfl, by decide, by decide, by decide⟩
theorem Yi_X6_init : yX6_init.name = "<init>" ∧ Cond.instanceMethod yX6_init ∈ q_T := ⟨rfl, q_m3 162 rfl rfl⟩
theorem Y_X4_init : q_Y yX4_init cX4_init 1 none 0 := ⟨q_m2 42 rfl rfl, q_m1 11 rfl rfl, by decide, by decide, by decide⟩
theorem Yi_X4_init : yX4_init.name = "<init>" ∧ Cond.instanceMethod yX4_init ∈ q_T := ⟨rfl, q_m2 41 rfl rfl⟩
theorem Y_X9_init : q_Y yX9_init cX9_init 1 none 0 := ⟨q_m1 34 rfl rfl, q_m1 2 rfl rfl, by decide, by decide, by decide⟩
theorem Yi_X9_init : yX9_init.name = "<init>" ∧ Cond.instanceMethod yX9_init ∈ q_T := ⟨rfl, q_m1 33 rfl rfl⟩
theorem Y_X3_init : q_Y yX3_init cX3_init 2 none 1 := ⟨q_m1 50 rfl rfl, q_m1 3 rfl rfl, by decide, by decide, by decide⟩
theorem Yi_X3_init : yX3_init.name = "<init>" ∧ Cond.instanceMethod yX3_init ∈ q_T := ⟨rfl, q_m1 49 rfl rfl⟩
theorem Y_X5_init : q_Y yX5_init cX5_init 2 none 1 := ⟨q_m1 91 rfl rfl, q_m1 4 rfl rfl, by decide, by decide, by decide⟩
theorem Yi_X5_init : yX5_init.name = "<init>" ∧ Cond.instanceMethod yX5_init ∈ q_T := ⟨rfl, q_m1 90 rfl rfl⟩
theorem Y_X7_init : q_Y yX7_init cX7_init 2 none 1 := ⟨q_m1 104 rfl rfl, q_m1 5 rfl rfl, by decide, by decide, by decide⟩
theorem Yi_X7_init : yX7_init.name = "<init>" ∧ Cond.instanceMethod yX7_init ∈ q_T := ⟨rfl, q_m1 103 rfl rfl⟩
theorem Y_X0_init : q_Y yX0_init cX0_init 1 none 0 := ⟨q_m1 140 rfl rfl, q_m1 6 rfl rfl, by decide, by decide, by decide⟩
theorem Yi_X0_init : yX0_init.name = "<init>" ∧ Cond.instanceMethod yX0_init ∈ q_T := ⟨rfl, q_m1 139 rfl rfl⟩
theorem Y_X2_init : q_Y yX2_init cX2_init 2 none 0 := ⟨q_m1 224 rfl rfl, q_m1 8 rfl rfl, by decide, by decide, by decide⟩
theorem Yi_X2_init : yX2_init.name = "<init>" ∧ Cond.instanceMethod yX2_init ∈ q_T := ⟨rfl, q_m1 223 rfl rfl⟩
theorem Y_X1_init : q_Y yX1_init cX1_init 1 none 0 := ⟨q_m2 5 rfl rfl, q_m1 9 rfl rfl, by decide, by decide, by decide⟩
theorem Yi_X1_init : yX1_init.name = "<init>" ∧ Cond.instanceMethod yX1_init ∈ q_T := ⟨rfl, q_m2 4 rfl rfl⟩
theorem Y_X8_init : q_Y yX8_init cX8_init 4 none 3 := ⟨q_m2 34 rfl rfl, q_m1 10 rfl rfl, by decide, by decide, by decide⟩
theorem Yi_X8_init : yX8_init.name = "<init>" ∧ Cond.instanceMethod yX8_init ∈ q_T := ⟨rfl, q_m2 33 rfl rfl⟩
theorem Y_X5_read : q_Y yX5_read cX5_read 4 (some .int) 1 := ⟨q_m2 183 rfl rfl, q_m1 4 rfl rfl, by decide, by decide, by decide⟩
theorem Yv_X5_read : q_Yv yX5_read 5 := ⟨q_m2 181 rfl rfl, q_m2 182 rfl rfl, TX5, 2, rfl, by decide⟩
theorem Y_X7_read : q_Y yX7_read cX7_read 3 (some .int) 0 := ⟨q_m3 81 rfl rfl, q_m1 5 rfl rfl, by decide, by decide, by decide⟩
theorem Yv_X7_read : q_Yv yX7_read 7 := ⟨q_m3 79 rfl rfl, q_m3 80 rfl rfl, TX7, 9, rfl, by decide⟩
theorem Y_X7_made : q_Y yX7_made cX7_made 1 (some (.object "TugRope$Rule")) 0 := ⟨q_m3 142 rfl rfl, q_m1 5 rfl rfl, by decide, by decide, by decide⟩
theorem Yv_X7_made : q_Yv yX7_made 7 := ⟨q_m3 140 rfl rfl, q_m3 141 rfl rfl, TX7, 9, rfl, by decide⟩
theorem Y_X4_tipsBy : q_Y yX4_tipsBy cX4_tipsBy 6 (some .int) 2 := ⟨q_m4 114 rfl rfl, q_m1 11 rfl rfl, by decide, by decide, by decide⟩
theorem Yv_X4_tipsBy : q_Yv yX4_tipsBy 4 := ⟨q_m4 112 rfl rfl, q_m4 113 rfl rfl, TX4, 8, rfl, by decide⟩
