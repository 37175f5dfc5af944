abbrev cJ0_length_8abf5 : ByteArray := prog_18_method_54_code
def yJ0_length_8abf5 : MethodName := ⟨RJ0, "length", "()I"⟩
abbrev cJ0_charAt_5068e : ByteArray := prog_18_method_56_code
def yJ0_charAt_5068e : MethodName := ⟨RJ0, "charAt", "(I)C"⟩
abbrev cJ0_coder_7d493 : ByteArray := prog_18_method_152_code
def yJ0_coder_7d493 : MethodName := ⟨RJ0, "coder", "()B"⟩
abbrev cJ0_isLatin1_aae02 : ByteArray := prog_18_method_154_code
def yJ0_isLatin1_aae02 : MethodName := ⟨RJ0, "isLatin1", "()Z"⟩
abbrev cJ0_checkIndex_df160 : ByteArray := prog_18_method_155_code
def yJ0_checkIndex_df160 : MethodName := ⟨RJ0, "checkIndex", "(II)V"⟩
abbrev cJ1_charAt_3b067 : ByteArray := prog_19_method_2_code
def yJ1_charAt_3b067 : MethodName := ⟨RJ1, "charAt", "([BI)C"⟩
abbrev cJ3_checkIndex_8e157 : ByteArray := prog_23_method_11_code
def yJ3_checkIndex_8e157 : MethodName := ⟨RJ3, "checkIndex", "(IILjava/util/function/BiFunction;)I"⟩
theorem Y_J0_length_8abf5 : q_Y yJ0_length_8abf5 cJ0_length_8abf5 1 (some .int) 0 := ⟨q_m2 216 rfl rfl, q_m1 13 rfl rfl, by decide, by decide, by decide⟩
theorem Yn_J0_length_8abf5 : Cond.instanceMethod yJ0_length_8abf5 ∈ q_T := q_m2 214 rfl rfl
theorem Yt_J0_length_8abf5 : Cond.selects "java/lang/String" yJ0_length_8abf5 yJ0_length_8abf5 ∈ q_T := q_m2 215 rfl rfl
theorem Y_J0_charAt_5068e : q_Y yJ0_charAt_5068e cJ0_charAt_5068e 2 (some .char) 1 := ⟨q_m2 226 rfl rfl, q_m1 13 rfl rfl, by decide, by decide, by decide⟩
theorem Yn_J0_charAt_5068e : Cond.instanceMethod yJ0_charAt_5068e ∈ q_T := q_m2 224 rfl rfl
theorem Yt_J0_charAt_5068e : Cond.selects "java/lang/String" yJ0_charAt_5068e yJ0_charAt_5068e ∈ q_T := q_m2 225 rfl rfl
theorem Y_J0_coder_7d493 : q_Y yJ0_coder_7d493 cJ0_coder_7d493 1 (some .byte) 0 := ⟨q_m2 220 rfl rfl, q_m1 13 rfl rfl, by decide, by decide, by decide⟩
theorem Yn_J0_coder_7d493 : Cond.instanceMethod yJ0_coder_7d493 ∈ q_T := q_m2 218 rfl rfl
theorem Yt_J0_coder_7d493 : Cond.selects "java/lang/String" yJ0_coder_7d493 yJ0_coder_7d493 ∈ q_T := q_m2 219 rfl rfl
theorem Y_J0_isLatin1_aae02 : q_Y yJ0_isLatin1_aae02 cJ0_isLatin1_aae02 1 (some .boolean) 0 := ⟨q_m2 230 rfl rfl, q_m1 13 rfl rfl, by decide, by decide, by decide⟩
theorem Yn_J0_isLatin1_aae02 : Cond.instanceMethod yJ0_isLatin1_aae02 ∈ q_T := q_m2 228 rfl rfl
theorem Yt_J0_isLatin1_aae02 : Cond.selects "java/lang/String" yJ0_isLatin1_aae02 yJ0_isLatin1_aae02 ∈ q_T := q_m2 229 rfl rfl
theorem Y_J0_checkIndex_df160 : q_Y yJ0_checkIndex_df160 cJ0_checkIndex_df160 2 none 2 := ⟨q_m2 236 rfl rfl, q_m1 13 rfl rfl, by decide, by decide, by decide⟩
theorem Ys_J0_checkIndex_df160 : Cond.static yJ0_checkIndex_df160 ∈ q_T := q_m2 235 rfl rfl
theorem Y_J1_charAt_3b067 : q_Y yJ1_charAt_3b067 cJ1_charAt_3b067 2 (some .char) 2 := ⟨q_m2 233 rfl rfl, q_m1 14 rfl rfl, by decide, by decide, by decide⟩
theorem Ys_J1_charAt_3b067 : Cond.static yJ1_charAt_3b067 ∈ q_T := q_m2 232 rfl rfl
theorem Y_J3_checkIndex_8e157 : q_Y yJ3_checkIndex_8e157 cJ3_checkIndex_8e157 3 (some .int) 3 := ⟨q_m3 1 rfl rfl, q_m1 15 rfl rfl, by decide, by decide, by decide⟩
theorem Ys_J3_checkIndex_8e157 : Cond.static yJ3_checkIndex_8e157 ∈ q_T := q_m3 0 rfl rfl
theorem mj_J0_length_TugRopeReader_73 : Cond.methodLink "TugRope$Reader" 73 yJ0_length_8abf5 ∈ q_T := q_m2 213 rfl rfl
theorem mj_J0_coder_javalangString_335 : Cond.methodLink "java/lang/String" 335 yJ0_coder_7d493 ∈ q_T := q_m2 217 rfl rfl
theorem mj_J0_charAt_TugRopeReader_78 : Cond.methodLink "TugRope$Reader" 78 yJ0_charAt_5068e ∈ q_T := q_m2 223 rfl rfl
theorem mj_J0_isLatin1_javalangString_492 : Cond.methodLink "java/lang/String" 492 yJ0_isLatin1_aae02 ∈ q_T := q_m2 227 rfl rfl
theorem mj_J1_charAt_javalangString_495 : Cond.methodLink "java/lang/String" 495 yJ1_charAt_3b067 ∈ q_T := q_m2 231 rfl rfl
theorem mj_J0_checkIndex_javalangStringLatin1_9 : Cond.methodLink "java/lang/StringLatin1" 9 yJ0_checkIndex_df160 ∈ q_T := q_m2 234 rfl rfl
theorem mj_J3_checkIndex_javalangString_1059 : Cond.methodLink "java/lang/String" 1059 yJ3_checkIndex_8e157 ∈ q_T := q_m2 239 rfl rfl
theorem mj_J0_checkIndex_javalangStringUTF16_414 : Cond.methodLink "java/lang/StringUTF16" 414 yJ0_checkIndex_df160 ∈ q_T := q_m3 11 rfl rfl
theorem fj_C : Cond.fieldLink "java/lang/String" 38 "java/lang/String" "COMPACT_STRINGS" "Z" ∈ q_T := q_m2 221 rfl rfl
theorem fj_V : Cond.fieldLink "java/lang/String" 9 "java/lang/String" "value" "[B" ∈ q_T := q_m8 30 rfl rfl
theorem fj_K : Cond.fieldLink "java/lang/String" 15 "java/lang/String" "coder" "B" ∈ q_T := q_m8 31 rfl rfl
theorem fj_F : Cond.fieldLink "java/lang/String" 1053 "jdk/internal/util/Preconditions" "SIOOBE_FORMATTER" "Ljava/util/function/BiFunction;" ∈ q_T := q_m2 237 rfl rfl
set_option maxRecDepth 20000 in
theorem c_J3_checkIndex_8e157 (l : Launch) (base : Nat) (D : va_G) (tc : Nat → ClassId) (sz : Nat) (h : q_H) (i n : Int32) (f : Option Nat) (g0 : ¬ i < 0) (g1 : i < n) : q_M l yJ3_checkIndex_8e157 cJ3_checkIndex_8e157 3 (some .int) 0 0 0 0 base D tc [.int i, .int n, va_rf f] sz h (some (.int i)) sz h := by
  refine q_starti (by decide) (by cases f <;> exact Nat.le_of_ble_eq_true rfl) (fun Γ B K => ?_)
  obtain ⟨C, Rm, -⟩ := B
  have C : q_C Γ cJ3_checkIndex_8e157 "jdk/internal/util/Preconditions" := C
  rw [show lv_args 0 [.int i, .int n, va_rf f] = [(0, .int i), (1, .int n), (2, va_rf f)] from by cases f <;> rfl]
  refine q_iload_n C (k4 := 0) 0 rfl (by decide +kernel) ?_
  refine q_if_lt C (off := 8) 9 (α := Unit) (A := none) (B := some ()) (ρ := ()) (by rw [if_neg g0]) (by decide +kernel) (by decide) (fun q _ => absurd q g0) (fun _ _ => ?_)
  refine q_iload_n C (k4 := 0) 0 rfl (by decide +kernel) ?_
  refine q_iload_n C (k4 := 1) 1 rfl (by decide +kernel) ?_
  refine q_icmp_lt C (off := 10) 16 (α := Unit) (A := some ()) (B := none) (ρ := ()) (by rw [if_pos g1]) (by decide +kernel) (by decide) (fun _ _ => ?_) (fun q _ => absurd g1 q)
  refine q_iload_n C (k4 := 0) 0 rfl (by decide +kernel) ?_
  exact q_ret (K rfl) (by decide +kernel)
set_option maxRecDepth 20000 in
theorem c_J0_checkIndex_df160 (l : Launch) (base : Nat) (D : va_G) (tc : Nat → ClassId) (sz : Nat) (h : q_H) (i n : Int32) (g0 : ¬ i < 0) (g1 : i < n) : q_M l yJ0_checkIndex_df160 cJ0_checkIndex_df160 2 none 1 22 0 0 base D tc [.int i, .int n] sz h none sz h := by
  refine q_startv (by decide) (Nat.le_of_ble_eq_true rfl) (fun Γ B K => ?_)
  obtain ⟨C, Rm, -⟩ := B
  have C : q_C Γ cJ0_checkIndex_df160 "java/lang/String" := C
  show q_V Γ sz 0 0 h [(0, .int i), (1, .int n)] [] 0
  refine q_iload_n C (k4 := 0) 0 rfl (by decide +kernel) ?_
  refine q_iload_n C (k4 := 1) 1 rfl (by decide +kernel) ?_
  refine q_gsF C fj_F (by decide +kernel) (fun f => ?_)
  refine q_calls C Rm (As := [.int i, .int n, va_rf f]) (rest := []) (cells := 0) (slots := 0) Y_J3_checkIndex_8e157 Ys_J3_checkIndex_8e157 mj_J3_checkIndex_javalangString_1059 (by decide) (by decide) (c_J3_checkIndex_8e157 _ _ _ _ sz h i n f g0 g1) rfl rfl (Nat.le_of_ble_eq_true rfl) (by decide +kernel) (fun _ => ?_)
  refine q_pop C rfl (by decide +kernel) ?_
  exact q_ret K (by decide +kernel)
theorem q_ch_in {i v : Int32} (e : q_ch i = some v) : (¬ i < 0 ∧ i < 91) ∧ v ∈ q_txt := by
  unfold q_ch at e
  split at e
  · next hin =>
    obtain ⟨j, hj, rfl⟩ := vp_in_of (n := 91) hin (by decide)
    rw [nI_clamp (by omega)] at e
    cases e
    refine ⟨⟨nI_pos (by omega), nI_lt hj (by decide)⟩, ?_⟩
    rw [List.getD_eq_getElem?_getD, List.getElem?_eq_getElem (show j < q_txt.length from hj)]
    exact List.getElem_mem _
  · cases e
theorem q_ch_c {i v : Int32} (e : q_ch i = some v) : ((v &&& 255).toUInt32 % 65536).toInt32 = v ∧ narrow .char (.int v) = .int v := by
  have h := List.all_eq_true.mp (show q_txt.all (fun v => decide (((v &&& 255).toUInt32 % 65536).toInt32 = v ∧ narrow .char (.int v) = .int v)) = true from by decide +kernel) v (q_ch_in e).2
  exact of_decide_eq_true h
theorem q_i2c {Γ : q_G} {cc : ByteArray} {own : String} {sz cells slots : Nat} {h : q_H} {lv : List (Nat × Value)} {st : List Value} {pc : Nat} (C : q_C Γ cc own) {x : Int32} (hd : decode cc pc = .ok (.i2c, 1)) (k : q_V Γ sz cells slots h lv (.int (x.toUInt32 % 65536).toInt32 :: st) (pc + 1)) : q_V Γ sz cells slots h lv (.int x :: st) pc := by
  obtain ⟨⟨p, l, ev, R, s, m, args, below, meth, c⟩, Q, base, nL, D, tc⟩ := Γ
  obtain ⟨hx, hb, hml, hown, hts, hK, hbs, hS0⟩ := C
  intro H locs ls hR hS hl
  exact lv_i2c hx hb hd rfl (k H locs ls hR hS hl)
set_option maxRecDepth 20000 in
theorem c_J1_charAt_3b067 (l : Launch) (base : Nat) (D : va_G) (tc : Nat → ClassId) (sz : Nat) (h : q_H) (i v : Int32) (e : q_ch i = some v) : q_M l yJ1_charAt_3b067 cJ1_charAt_3b067 2 (some .char) 2 43 0 0 base D tc [.ref (tc 102), .int i] sz h (some (.int v)) sz h := by
  refine q_starti (by decide) (Nat.le_of_ble_eq_true rfl) (fun Γ B K => ?_)
  obtain ⟨C, Rm, b1, b2, b3, b4, -⟩ := B
  have C : q_C Γ cJ1_charAt_3b067 "java/lang/StringLatin1" := C
  show q_V Γ sz 0 0 h [(0, .ref (tc 102)), (1, .int i)] [] 0
  rw [← b4]
  have hi := (q_ch_in e).1
  refine q_iload_n C (k4 := 1) 1 rfl (by decide +kernel) ?_
  refine q_aload_n C (k4 := 0) 0 rfl (by decide +kernel) ?_
  refine q_lenS C (by decide +kernel) ?_
  refine q_calls C Rm (As := [.int i, .int 91]) (rest := []) (cells := 0) (slots := 0) Y_J0_checkIndex_df160 Ys_J0_checkIndex_df160 mj_J0_checkIndex_javalangStringLatin1_9 (by decide) (by decide) (c_J0_checkIndex_df160 _ _ _ _ sz h i 91 hi.1 hi.2) rfl rfl (Nat.le_of_ble_eq_true rfl) (by decide +kernel) (fun _ => ?_)
  refine q_aload_n C (k4 := 0) 0 rfl (by decide +kernel) ?_
  refine q_iload_n C (k4 := 1) 1 rfl (by decide +kernel) ?_
  refine q_tbS C e (by decide +kernel) ?_
  refine q_sipush C (n := 255) (v := 255) (by decide) (by decide +kernel) ?_
  refine q_iand C (by decide +kernel) ?_
  refine q_i2c C (by decide +kernel) ?_
  rw [(q_ch_c e).1]
  exact q_ret (K (q_ch_c e).2) (by decide +kernel)
set_option maxRecDepth 20000 in
theorem c_J0_coder_7d493 (l : Launch) (base : Nat) (D : va_G) (tc : Nat → ClassId) (sz : Nat) (h : q_H) : q_M l yJ0_coder_7d493 cJ0_coder_7d493 1 (some .byte) 0 0 0 0 base D tc [.ref (tc 101)] sz h (some (.int 0)) sz h := by
  refine q_starti (by decide) (Nat.le_of_ble_eq_true rfl) (fun Γ B K => ?_)
  obtain ⟨C, Rm, b1, b2, b3, b4, -⟩ := B
  have C : q_C Γ cJ0_coder_7d493 "java/lang/String" := C
  show q_V Γ sz 0 0 h [(0, .ref (tc 101))] [] 0
  rw [← b4]
  refine q_gsC C fj_C (by decide +kernel) ?_
  refine q_if_eq C (off := 10) 13 (α := Unit) (A := none) (B := some ()) (ρ := ()) (by rw [if_neg (by decide)]) (by decide +kernel) (by decide) (fun q _ => absurd q (by decide)) (fun _ _ => ?_)
  refine q_aload_n C (k4 := 0) 0 rfl (by decide +kernel) ?_
  refine q_gfC C fj_K (by decide +kernel) ?_
  refine q_goto C (off := 4) 14 (by decide +kernel) (by decide) ?_
  exact q_ret (K (by decide)) (by decide +kernel)
set_option maxRecDepth 20000 in
theorem c_J0_isLatin1_aae02 (l : Launch) (base : Nat) (D : va_G) (tc : Nat → ClassId) (sz : Nat) (h : q_H) : q_M l yJ0_isLatin1_aae02 cJ0_isLatin1_aae02 1 (some .boolean) 0 0 0 0 base D tc [.ref (tc 101)] sz h (some (.int 1)) sz h := by
  refine q_starti (by decide) (Nat.le_of_ble_eq_true rfl) (fun Γ B K => ?_)
  obtain ⟨C, Rm, b1, b2, b3, b4, -⟩ := B
  have C : q_C Γ cJ0_isLatin1_aae02 "java/lang/String" := C
  show q_V Γ sz 0 0 h [(0, .ref (tc 101))] [] 0
  rw [← b4]
  refine q_gsC C fj_C (by decide +kernel) ?_
  refine q_if_eq C (off := 14) 17 (α := Unit) (A := none) (B := some ()) (ρ := ()) (by rw [if_neg (by decide)]) (by decide +kernel) (by decide) (fun q _ => absurd q (by decide)) (fun _ _ => ?_)
  refine q_aload_n C (k4 := 0) 0 rfl (by decide +kernel) ?_
  refine q_gfC C fj_K (by decide +kernel) ?_
  refine q_if_ne C (off := 7) 17 (α := Unit) (A := none) (B := some ()) (ρ := ()) (by rw [if_pos rfl]) (by decide +kernel) (by decide) (fun q _ => absurd rfl q) (fun _ _ => ?_)
  refine q_iconst C (n := 1) (v := 1) (by decide) (by decide +kernel) ?_
  refine q_goto C (off := 4) 18 (by decide +kernel) (by decide) ?_
  exact q_ret (K q_z1) (by decide +kernel)
set_option maxRecDepth 20000 in
theorem c_J0_length_8abf5 (l : Launch) (base : Nat) (D : va_G) (tc : Nat → ClassId) (sz : Nat) (h : q_H) : q_M l yJ0_length_8abf5 cJ0_length_8abf5 1 (some .int) 1 20 0 0 base D tc [.ref (tc 101)] sz h (some (.int 91)) sz h := by
  refine q_starti (by decide) (Nat.le_of_ble_eq_true rfl) (fun Γ B K => ?_)
  obtain ⟨C, Rm, b1, b2, b3, b4, -⟩ := B
  have C : q_C Γ cJ0_length_8abf5 "java/lang/String" := C
  show q_V Γ sz 0 0 h [(0, .ref (tc 101))] [] 0
  rw [← b4]
  refine q_aload_n C (k4 := 0) 0 rfl (by decide +kernel) ?_
  refine q_gfV C fj_V (by decide +kernel) ?_
  refine q_lenS C (by decide +kernel) ?_
  refine q_aload_n C (k4 := 0) 0 rfl (by decide +kernel) ?_
  refine q_callS C Rm (As := []) (rest := [.int 91]) Y_J0_coder_7d493 Yn_J0_coder_7d493 Yt_J0_coder_7d493 mj_J0_coder_javalangString_335 (by decide) (by decide) (c_J0_coder_7d493 _ _ _ _ sz h) rfl rfl (Nat.le_of_ble_eq_true rfl) (by decide +kernel) (fun _ => ?_)
  refine q_ishr C (by decide +kernel) ?_
  exact q_ret (K rfl) (by decide +kernel)
set_option maxRecDepth 20000 in
theorem c_J0_charAt_5068e (l : Launch) (base : Nat) (D : va_G) (tc : Nat → ClassId) (sz : Nat) (h : q_H) (i v : Int32) (e : q_ch i = some v) : q_M l yJ0_charAt_5068e cJ0_charAt_5068e 2 (some .char) 3 64 0 0 base D tc [.ref (tc 101), .int i] sz h (some (.int v)) sz h := by
  refine q_starti (by decide) (Nat.le_of_ble_eq_true rfl) (fun Γ B K => ?_)
  obtain ⟨C, Rm, b1, b2, b3, b4, -⟩ := B
  have C : q_C Γ cJ0_charAt_5068e "java/lang/String" := C
  show q_V Γ sz 0 0 h [(0, .ref (tc 101)), (1, .int i)] [] 0
  rw [← b4]
  refine q_aload_n C (k4 := 0) 0 rfl (by decide +kernel) ?_
  refine q_callS C Rm (As := []) (rest := []) Y_J0_isLatin1_aae02 Yn_J0_isLatin1_aae02 Yt_J0_isLatin1_aae02 mj_J0_isLatin1_javalangString_492 (by decide) (by decide) (c_J0_isLatin1_aae02 _ _ _ _ sz h) rfl rfl (Nat.le_of_ble_eq_true rfl) (by decide +kernel) (fun _ => ?_)
  refine q_if_eq C (off := 12) 16 (α := Unit) (A := none) (B := some ()) (ρ := ()) (by rw [if_neg (by decide)]) (by decide +kernel) (by decide) (fun q _ => absurd q (by decide)) (fun _ _ => ?_)
  refine q_aload_n C (k4 := 0) 0 rfl (by decide +kernel) ?_
  refine q_gfV C fj_V (by decide +kernel) ?_
  refine q_iload_n C (k4 := 1) 1 rfl (by decide +kernel) ?_
  refine q_calls C Rm (As := [.ref (q_t Γ 102), .int i]) (rest := []) (cells := 0) (slots := 0) Y_J1_charAt_3b067 Ys_J1_charAt_3b067 mj_J1_charAt_javalangString_495 (by decide) (by decide) (c_J1_charAt_3b067 _ _ _ _ sz h i v e) rfl rfl (Nat.le_of_ble_eq_true rfl) (by decide +kernel) (fun _ => ?_)
  exact q_ret (K (q_ch_c e).2) (by decide +kernel)
