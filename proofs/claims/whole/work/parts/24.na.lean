def m_X10_init (z : Nat) (h : q_H) (a0 : Nat) : Option (Nat × q_H) :=
  let h1 := va_up h z (.inl (1, 8, .inl (fun _ => 0)))
  (q_pf h1 a0 10 3 (.ref z)).bind fun h2 =>
  let h3 := va_up h2 (z + 1) (.inl (1, 8, .inl (fun _ => 0)))
  (q_pf h3 a0 10 4 (.ref (z + 1))).bind fun h4 =>
  let h5 := va_up h4 (z + 1 + 1) (.inl (1, 8, .inl (fun _ => 0)))
  (q_pf h5 a0 10 5 (.ref (z + 1 + 1))).bind fun h6 =>
  let h7 := va_up h6 (z + 1 + 1 + 1) (.inl (1, 8, .inl (fun _ => 0)))
  (q_pf h7 a0 10 6 (.ref (z + 1 + 1 + 1))).bind fun h8 =>
  some (z + 1 + 1 + 1 + 1, h8)
set_option maxRecDepth 20000 in
set_option maxHeartbeats 1000000 in
theorem c_X10_init (l : Launch) (base : Nat) (D : va_G) (tc : Nat → ClassId) (z : Nat) (h : q_H) (a0 : Nat) {sz' : Nat} {h' : q_H} (hm : m_X10_init z h a0 = some (sz', h')) : q_M l yX10_init cX10_init 1 none 3 80 4 32 base D tc [.ref a0] z h none sz' h' := by
  refine q_startv (by decide) (Nat.le_of_ble_eq_true rfl) (fun Γ B K => ?_)
  obtain ⟨C, Rm, -, -, -, -, hin⟩ := B
  have hin : Γ.1.2.2.2.2.2.2.2.2.1.name = "<init>" := hin
  have C : q_C Γ cX10_init RX10 := C
  show q_V Γ z 0 0 h [(0, .ref a0)] [] 0
  unfold m_X10_init at hm
  refine q_aload_n C (k4 := 0) 0 rfl (by decide +kernel) ?_
  refine q_obj C Rm ml_X10_3 ob_i ob_c (by decide) (by decide +kernel) ?_
  refine q_aload_n C (k4 := 0) 0 rfl (by decide +kernel) ?_
  refine q_bipush C (n := 8) (v := 8) (by decide) (by decide +kernel) ?_
  refine q_newa C Rm (atype := .int) (t := 1) (N' := 8) (ty := .int) (n := 8) (.inl (fun _ => 0)) rfl aw_int (fun _ => rfl) (fun _ _ h => h) (fun _ => rfl) (by decide) (by decide +kernel) (Nat.le_of_ble_eq_true rfl) ⟨Nat.le_of_ble_eq_true rfl, Nat.le_of_ble_eq_true rfl⟩ (by decide +kernel) ?_
  refine q_putF C hin ff_10_9 hm rfl rfl (by decide +kernel) (fun h2 hm => ?_)
  refine q_aload_n C (k4 := 0) 0 rfl (by decide +kernel) ?_
  refine q_bipush C (n := 8) (v := 8) (by decide) (by decide +kernel) ?_
  refine q_newa C Rm (atype := .int) (t := 1) (N' := 8) (ty := .int) (n := 8) (.inl (fun _ => 0)) rfl aw_int (fun _ => rfl) (fun _ _ h => h) (fun _ => rfl) (by decide) (by decide +kernel) (Nat.le_of_ble_eq_true rfl) ⟨Nat.le_of_ble_eq_true rfl, Nat.le_of_ble_eq_true rfl⟩ (by decide +kernel) ?_
  refine q_putF C hin ff_10_15 hm rfl rfl (by decide +kernel) (fun h4 hm => ?_)
  refine q_aload_n C (k4 := 0) 0 rfl (by decide +kernel) ?_
  refine q_bipush C (n := 8) (v := 8) (by decide) (by decide +kernel) ?_
  refine q_newa C Rm (atype := .int) (t := 1) (N' := 8) (ty := .int) (n := 8) (.inl (fun _ => 0)) rfl aw_int (fun _ => rfl) (fun _ _ h => h) (fun _ => rfl) (by decide) (by decide +kernel) (Nat.le_of_ble_eq_true rfl) ⟨Nat.le_of_ble_eq_true rfl, Nat.le_of_ble_eq_true rfl⟩ (by decide +kernel) ?_
  refine q_putF C hin ff_10_18 hm rfl rfl (by decide +kernel) (fun h6 hm => ?_)
  refine q_aload_n C (k4 := 0) 0 rfl (by decide +kernel) ?_
  refine q_bipush C (n := 8) (v := 8) (by decide) (by decide +kernel) ?_
  refine q_newa C Rm (atype := .int) (t := 1) (N' := 8) (ty := .int) (n := 8) (.inl (fun _ => 0)) rfl aw_int (fun _ => rfl) (fun _ _ h => h) (fun _ => rfl) (by decide) (by decide +kernel) (Nat.le_of_ble_eq_true rfl) ⟨Nat.le_of_ble_eq_true rfl, Nat.le_of_ble_eq_true rfl⟩ (by decide +kernel) ?_
  refine q_putF C hin ff_10_21 hm rfl rfl (by decide +kernel) (fun h8 hm => ?_)
  exact q_rvA hm K ⟨Nat.le_of_ble_eq_true rfl, Nat.le_of_ble_eq_true rfl⟩ (by decide +kernel)
def m_X0_init (z : Nat) (h : q_H) (a0 : Nat) : Option (Nat × q_H) :=
  let h1 := va_up h z (.inr (10, [.int 0, .int 0, .int 0, .null, .null, .null, .null]))
  (m_X10_init (z + 1) h1 z).bind fun (z2, h3) =>
  (q_pf h3 a0 0 1 (.ref z)).bind fun h4 =>
  (q_pf h4 a0 0 2 (.int ((-1 : Int32)))).bind fun h5 =>
  let h6 := va_up h5 z2 (.inl (1, 10, .inl (fun _ => 0)))
  (q_pf h6 a0 0 5 (.ref z2)).bind fun h7 =>
  let h8 := va_up h7 (z2 + 1) (.inl (1, 10, .inl (fun _ => 0)))
  (q_pf h8 a0 0 6 (.ref (z2 + 1))).bind fun h9 =>
  some (z2 + 1 + 1, h9)
set_option maxRecDepth 20000 in
set_option maxHeartbeats 1000000 in
theorem c_X0_init (l : Launch) (base : Nat) (D : va_G) (tc : Nat → ClassId) (z : Nat) (h : q_H) (a0 : Nat) {sz' : Nat} {h' : q_H} (hm : m_X0_init z h a0 = some (sz', h')) : q_M l yX0_init cX0_init 1 none 4 100 7 59 base D tc [.ref a0] z h none sz' h' := by
  refine q_startv (by decide) (Nat.le_of_ble_eq_true rfl) (fun Γ B K => ?_)
  obtain ⟨C, Rm, -, -, -, -, hin⟩ := B
  have hin : Γ.1.2.2.2.2.2.2.2.2.1.name = "<init>" := hin
  have C : q_C Γ cX0_init RX0 := C
  show q_V Γ z 0 0 h [(0, .ref a0)] [] 0
  unfold m_X0_init at hm
  refine q_aload_n C (k4 := 0) 0 rfl (by decide +kernel) ?_
  refine q_obj C Rm ml_X0_3 ob_i ob_c (by decide) (by decide +kernel) ?_
  refine q_aload_n C (k4 := 0) 0 rfl (by decide +kernel) ?_
  refine q_new C Rm q_FX10 [.int 0, .int 0, .int 0, .null, .null, .null, .null] df_10 cl_X0_9 in_10 ni_10 (by decide) (by decide +kernel) ?_
  refine q_dup C rfl (by decide +kernel) ?_
  refine q_inA C Rm (As := []) (rest := [.ref z, .ref a0]) Y_X10_init Yi_X10_init ml_X0_11 (by decide) ⟨Nat.le_of_ble_eq_true rfl, Nat.le_of_ble_eq_true rfl⟩ hm (fun z9 h9 e9 => c_X10_init _ _ _ _ _ _ _ e9) rfl rfl (Nat.le_of_ble_eq_true rfl) (by decide +kernel) (fun z2 h3 hm => ?_)
  refine q_putF C hin ff_0_12 hm rfl rfl (by decide +kernel) (fun h4 hm => ?_)
  refine q_aload_n C (k4 := 0) 0 rfl (by decide +kernel) ?_
  refine q_iconst C (n := (-1)) (v := (-1)) (by decide) (by decide +kernel) ?_
  refine q_putf C fl_0_18 hm rfl rfl (by decide +kernel) (fun h5 hm => ?_)
  refine q_aload_n C (k4 := 0) 0 rfl (by decide +kernel) ?_
  refine q_bipush C (n := 10) (v := 10) (by decide) (by decide +kernel) ?_
  refine q_newa C Rm (atype := .int) (t := 1) (N' := 10) (ty := .int) (n := 10) (.inl (fun _ => 0)) rfl aw_int (fun _ => rfl) (fun _ _ h => h) (fun _ => rfl) (by decide) (by decide +kernel) (Nat.le_of_ble_eq_true rfl) ⟨Nat.le_of_ble_eq_true rfl, Nat.le_of_ble_eq_true rfl⟩ (by decide +kernel) ?_
  refine q_putF C hin ff_0_22 hm rfl rfl (by decide +kernel) (fun h7 hm => ?_)
  refine q_aload_n C (k4 := 0) 0 rfl (by decide +kernel) ?_
  refine q_bipush C (n := 10) (v := 10) (by decide) (by decide +kernel) ?_
  refine q_newa C Rm (atype := .int) (t := 1) (N' := 10) (ty := .int) (n := 10) (.inl (fun _ => 0)) rfl aw_int (fun _ => rfl) (fun _ _ h => h) (fun _ => rfl) (by decide) (by decide +kernel) (Nat.le_of_ble_eq_true rfl) ⟨Nat.le_of_ble_eq_true rfl, Nat.le_of_ble_eq_true rfl⟩ (by decide +kernel) ?_
  refine q_putF C hin ff_0_26 hm rfl rfl (by decide +kernel) (fun h9 hm => ?_)
  exact q_rvA hm K ⟨Nat.le_of_ble_eq_true rfl, Nat.le_of_ble_eq_true rfl⟩ (by decide +kernel)
def m_X1_init (z : Nat) (h : q_H) (a0 : Nat) : Option (Nat × q_H) :=
  let h1 := va_up h z (.inl (1, 8, .inl (fun _ => 0)))
  (q_pf h1 a0 1 2 (.ref z)).bind fun h2 =>
  let h3 := va_up h2 (z + 1) (.inl (1, 8, .inl (fun _ => 0)))
  (q_pf h3 a0 1 3 (.ref (z + 1))).bind fun h4 =>
  let h5 := va_up h4 (z + 1 + 1) (.inl (1, 2, .inl (fun _ => 0)))
  (q_pf h5 a0 1 4 (.ref (z + 1 + 1))).bind fun h6 =>
  let h7 := va_up h6 (z + 1 + 1 + 1) (.inl (2, 11, .inr (.inl (fun _ => 0))))
  (q_pf h7 a0 1 5 (.ref (z + 1 + 1 + 1))).bind fun h8 =>
  let h9 := va_up h8 (z + 1 + 1 + 1 + 1) (.inl (2, 64, .inr (.inl (fun _ => 0))))
  (q_pf h9 a0 1 6 (.ref (z + 1 + 1 + 1 + 1))).bind fun h10 =>
  some (z + 1 + 1 + 1 + 1 + 1, h10)
set_option maxRecDepth 20000 in
set_option maxHeartbeats 1000000 in
theorem c_X1_init (l : Launch) (base : Nat) (D : va_G) (tc : Nat → ClassId) (z : Nat) (h : q_H) (a0 : Nat) {sz' : Nat} {h' : q_H} (hm : m_X1_init z h a0 = some (sz', h')) : q_M l yX1_init cX1_init 1 none 3 80 5 93 base D tc [.ref a0] z h none sz' h' := by
  refine q_startv (by decide) (Nat.le_of_ble_eq_true rfl) (fun Γ B K => ?_)
  obtain ⟨C, Rm, -, -, -, -, hin⟩ := B
  have hin : Γ.1.2.2.2.2.2.2.2.2.1.name = "<init>" := hin
  have C : q_C Γ cX1_init RX1 := C
  show q_V Γ z 0 0 h [(0, .ref a0)] [] 0
  unfold m_X1_init at hm
  refine q_aload_n C (k4 := 0) 0 rfl (by decide +kernel) ?_
  refine q_obj C Rm ml_X1_3 ob_i ob_c (by decide) (by decide +kernel) ?_
  refine q_aload_n C (k4 := 0) 0 rfl (by decide +kernel) ?_
  refine q_bipush C (n := 8) (v := 8) (by decide) (by decide +kernel) ?_
  refine q_newa C Rm (atype := .int) (t := 1) (N' := 8) (ty := .int) (n := 8) (.inl (fun _ => 0)) rfl aw_int (fun _ => rfl) (fun _ _ h => h) (fun _ => rfl) (by decide) (by decide +kernel) (Nat.le_of_ble_eq_true rfl) ⟨Nat.le_of_ble_eq_true rfl, Nat.le_of_ble_eq_true rfl⟩ (by decide +kernel) ?_
  refine q_putF C hin ff_1_9 hm rfl rfl (by decide +kernel) (fun h2 hm => ?_)
  refine q_aload_n C (k4 := 0) 0 rfl (by decide +kernel) ?_
  refine q_bipush C (n := 8) (v := 8) (by decide) (by decide +kernel) ?_
  refine q_newa C Rm (atype := .int) (t := 1) (N' := 8) (ty := .int) (n := 8) (.inl (fun _ => 0)) rfl aw_int (fun _ => rfl) (fun _ _ h => h) (fun _ => rfl) (by decide) (by decide +kernel) (Nat.le_of_ble_eq_true rfl) ⟨Nat.le_of_ble_eq_true rfl, Nat.le_of_ble_eq_true rfl⟩ (by decide +kernel) ?_
  refine q_putF C hin ff_1_15 hm rfl rfl (by decide +kernel) (fun h4 hm => ?_)
  refine q_aload_n C (k4 := 0) 0 rfl (by decide +kernel) ?_
  refine q_iconst C (n := 2) (v := 2) (by decide) (by decide +kernel) ?_
  refine q_newa C Rm (atype := .int) (t := 1) (N' := 2) (ty := .int) (n := 2) (.inl (fun _ => 0)) rfl aw_int (fun _ => rfl) (fun _ _ h => h) (fun _ => rfl) (by decide) (by decide +kernel) (Nat.le_of_ble_eq_true rfl) ⟨Nat.le_of_ble_eq_true rfl, Nat.le_of_ble_eq_true rfl⟩ (by decide +kernel) ?_
  refine q_putF C hin ff_1_18 hm rfl rfl (by decide +kernel) (fun h6 hm => ?_)
  refine q_aload_n C (k4 := 0) 0 rfl (by decide +kernel) ?_
  refine q_bipush C (n := 11) (v := 11) (by decide) (by decide +kernel) ?_
  refine q_newa C Rm (atype := .long) (t := 2) (N' := 11) (ty := .long) (n := 11) (.inr (.inl (fun _ => 0))) rfl aw_long (fun _ => rfl) (fun _ _ h => h) (fun _ => rfl) (by decide) (by decide +kernel) (Nat.le_of_ble_eq_true rfl) ⟨Nat.le_of_ble_eq_true rfl, Nat.le_of_ble_eq_true rfl⟩ (by decide +kernel) ?_
  refine q_putF C hin ff_1_23 hm rfl rfl (by decide +kernel) (fun h8 hm => ?_)
  refine q_aload_n C (k4 := 0) 0 rfl (by decide +kernel) ?_
  refine q_bipush C (n := 64) (v := 64) (by decide) (by decide +kernel) ?_
  refine q_newa C Rm (atype := .long) (t := 2) (N' := 64) (ty := .long) (n := 64) (.inr (.inl (fun _ => 0))) rfl aw_long (fun _ => rfl) (fun _ _ h => h) (fun _ => rfl) (by decide) (by decide +kernel) (Nat.le_of_ble_eq_true rfl) ⟨Nat.le_of_ble_eq_true rfl, Nat.le_of_ble_eq_true rfl⟩ (by decide +kernel) ?_
  refine q_putF C hin ff_1_27 hm rfl rfl (by decide +kernel) (fun h10 hm => ?_)
  exact q_rvA hm K ⟨Nat.le_of_ble_eq_true rfl, Nat.le_of_ble_eq_true rfl⟩ (by decide +kernel)
def m_X2_init (z : Nat) (h : q_H) (a0 : Nat) : Option (Nat × q_H) :=
  let h1 := va_up h z (.inl (6, 20, .inr (.inr (.inr (.inr (fun _ => none))))))
  (q_pf h1 a0 2 0 (.ref z)).bind fun h2 =>
  (q_gn h2 a0 2 0).bind fun v3 =>
  let h4 := va_up h2 (z + 1) (.inr (10, [.int 0, .int 0, .int 0, .null, .null, .null, .null]))
  (m_X10_init (z + 1 + 1) h4 (z + 1)).bind fun (z5, h6) =>
  (q_sr h6 v3 6 10 ((0 : Int32)) (z + 1)).bind fun h7 =>
  (q_gn h7 a0 2 0).bind fun v8 =>
  let h9 := va_up h7 z5 (.inr (10, [.int 0, .int 0, .int 0, .null, .null, .null, .null]))
  (m_X10_init (z5 + 1) h9 z5).bind fun (z10, h11) =>
  (q_sr h11 v8 6 10 ((1 : Int32)) z5).bind fun h12 =>
  (q_gn h12 a0 2 0).bind fun v13 =>
  let h14 := va_up h12 z10 (.inr (10, [.int 0, .int 0, .int 0, .null, .null, .null, .null]))
  (m_X10_init (z10 + 1) h14 z10).bind fun (z15, h16) =>
  (q_sr h16 v13 6 10 ((2 : Int32)) z10).bind fun h17 =>
  (q_gn h17 a0 2 0).bind fun v18 =>
  let h19 := va_up h17 z15 (.inr (10, [.int 0, .int 0, .int 0, .null, .null, .null, .null]))
  (m_X10_init (z15 + 1) h19 z15).bind fun (z20, h21) =>
  (q_sr h21 v18 6 10 ((3 : Int32)) z15).bind fun h22 =>
  (q_gn h22 a0 2 0).bind fun v23 =>
  let h24 := va_up h22 z20 (.inr (10, [.int 0, .int 0, .int 0, .null, .null, .null, .null]))
  (m_X10_init (z20 + 1) h24 z20).bind fun (z25, h26) =>
  (q_sr h26 v23 6 10 ((4 : Int32)) z20).bind fun h27 =>
  (q_gn h27 a0 2 0).bind fun v28 =>
  let h29 := va_up h27 z25 (.inr (10, [.int 0, .int 0, .int 0, .null, .null, .null, .null]))
  (m_X10_init (z25 + 1) h29 z25).bind fun (z30, h31) =>
  (q_sr h31 v28 6 10 ((5 : Int32)) z25).bind fun h32 =>
  (q_gn h32 a0 2 0).bind fun v33 =>
  let h34 := va_up h32 z30 (.inr (10, [.int 0, .int 0, .int 0, .null, .null, .null, .null]))
  (m_X10_init (z30 + 1) h34 z30).bind fun (z35, h36) =>
  (q_sr h36 v33 6 10 ((6 : Int32)) z30).bind fun h37 =>
  (q_gn h37 a0 2 0).bind fun v38 =>
  let h39 := va_up h37 z35 (.inr (10, [.int 0, .int 0, .int 0, .null, .null, .null, .null]))
  (m_X10_init (z35 + 1) h39 z35).bind fun (z40, h41) =>
  (q_sr h41 v38 6 10 ((7 : Int32)) z35).bind fun h42 =>
  (q_gn h42 a0 2 0).bind fun v43 =>
  let h44 := va_up h42 z40 (.inr (10, [.int 0, .int 0, .int 0, .null, .null, .null, .null]))
  (m_X10_init (z40 + 1) h44 z40).bind fun (z45, h46) =>
  (q_sr h46 v43 6 10 ((8 : Int32)) z40).bind fun h47 =>
  (q_gn h47 a0 2 0).bind fun v48 =>
  let h49 := va_up h47 z45 (.inr (10, [.int 0, .int 0, .int 0, .null, .null, .null, .null]))
  (m_X10_init (z45 + 1) h49 z45).bind fun (z50, h51) =>
  (q_sr h51 v48 6 10 ((9 : Int32)) z45).bind fun h52 =>
  (q_gn h52 a0 2 0).bind fun v53 =>
  let h54 := va_up h52 z50 (.inr (10, [.int 0, .int 0, .int 0, .null, .null, .null, .null]))
  (m_X10_init (z50 + 1) h54 z50).bind fun (z55, h56) =>
  (q_sr h56 v53 6 10 ((10 : Int32)) z50).bind fun h57 =>
  (q_gn h57 a0 2 0).bind fun v58 =>
  let h59 := va_up h57 z55 (.inr (10, [.int 0, .int 0, .int 0, .null, .null, .null, .null]))
  (m_X10_init (z55 + 1) h59 z55).bind fun (z60, h61) =>
  (q_sr h61 v58 6 10 ((11 : Int32)) z55).bind fun h62 =>
  (q_gn h62 a0 2 0).bind fun v63 =>
  let h64 := va_up h62 z60 (.inr (10, [.int 0, .int 0, .int 0, .null, .null, .null, .null]))
  (m_X10_init (z60 + 1) h64 z60).bind fun (z65, h66) =>
  (q_sr h66 v63 6 10 ((12 : Int32)) z60).bind fun h67 =>
  (q_gn h67 a0 2 0).bind fun v68 =>
  let h69 := va_up h67 z65 (.inr (10, [.int 0, .int 0, .int 0, .null, .null, .null, .null]))
  (m_X10_init (z65 + 1) h69 z65).bind fun (z70, h71) =>
  (q_sr h71 v68 6 10 ((13 : Int32)) z65).bind fun h72 =>
  (q_gn h72 a0 2 0).bind fun v73 =>
  let h74 := va_up h72 z70 (.inr (10, [.int 0, .int 0, .int 0, .null, .null, .null, .null]))
  (m_X10_init (z70 + 1) h74 z70).bind fun (z75, h76) =>
  (q_sr h76 v73 6 10 ((14 : Int32)) z70).bind fun h77 =>
  (q_gn h77 a0 2 0).bind fun v78 =>
  let h79 := va_up h77 z75 (.inr (10, [.int 0, .int 0, .int 0, .null, .null, .null, .null]))
  (m_X10_init (z75 + 1) h79 z75).bind fun (z80, h81) =>
  (q_sr h81 v78 6 10 ((15 : Int32)) z75).bind fun h82 =>
  (q_gn h82 a0 2 0).bind fun v83 =>
  let h84 := va_up h82 z80 (.inr (10, [.int 0, .int 0, .int 0, .null, .null, .null, .null]))
  (m_X10_init (z80 + 1) h84 z80).bind fun (z85, h86) =>
  (q_sr h86 v83 6 10 ((16 : Int32)) z80).bind fun h87 =>
  (q_gn h87 a0 2 0).bind fun v88 =>
  let h89 := va_up h87 z85 (.inr (10, [.int 0, .int 0, .int 0, .null, .null, .null, .null]))
  (m_X10_init (z85 + 1) h89 z85).bind fun (z90, h91) =>
  (q_sr h91 v88 6 10 ((17 : Int32)) z85).bind fun h92 =>
  (q_gn h92 a0 2 0).bind fun v93 =>
  let h94 := va_up h92 z90 (.inr (10, [.int 0, .int 0, .int 0, .null, .null, .null, .null]))
  (m_X10_init (z90 + 1) h94 z90).bind fun (z95, h96) =>
  (q_sr h96 v93 6 10 ((18 : Int32)) z90).bind fun h97 =>
  (q_gn h97 a0 2 0).bind fun v98 =>
  let h99 := va_up h97 z95 (.inr (10, [.int 0, .int 0, .int 0, .null, .null, .null, .null]))
  (m_X10_init (z95 + 1) h99 z95).bind fun (z100, h101) =>
  (q_sr h101 v98 6 10 ((19 : Int32)) z95).bind fun h102 =>
  some (z100, h102)
set_option maxRecDepth 20000 in
set_option maxHeartbeats 1000000 in
theorem c_X2_init (l : Launch) (base : Nat) (D : va_G) (tc : Nat → ClassId) (z : Nat) (h : q_H) (a0 : Nat) {sz' : Nat} {h' : q_H} (hm : m_X2_init z h a0 = some (sz', h')) : q_M l yX2_init cX2_init 2 none 4 100 101 800 base D tc [.ref a0] z h none sz' h' := by
  refine q_startv (by decide) (Nat.le_of_ble_eq_true rfl) (fun Γ B K => ?_)
  obtain ⟨C, Rm, -, -, -, -, hin⟩ := B
  have hin : Γ.1.2.2.2.2.2.2.2.2.1.name = "<init>" := hin
  have C : q_C Γ cX2_init RX2 := C
  show q_V Γ z 0 0 h [(0, .ref a0)] [] 0
  unfold m_X2_init at hm
  refine q_aload_n C (k4 := 0) 0 rfl (by decide +kernel) ?_
  refine q_obj C Rm ml_X2_1 ob_i ob_c (by decide) (by decide +kernel) ?_
  refine q_aload_n C (k4 := 0) 0 rfl (by decide +kernel) ?_
  refine q_bipush C (n := 20) (v := 20) (by decide) (by decide +kernel) ?_
  refine q_newr C Rm (t := 6) (N' := 20) (Cn := "TugRope$Tug") (n := 20) cl_X2_9 (q_aoT C) (fun _ => rfl) (by decide) (by decide) (by decide) ⟨Nat.le_of_ble_eq_true rfl, Nat.le_of_ble_eq_true rfl⟩ (by decide +kernel) ?_
  refine q_putF C hin ff_2_11 hm rfl rfl (by decide +kernel) (fun h2 hm => ?_)
  refine q_iconst C (n := 0) (v := 0) (by decide) (by decide +kernel) ?_
  refine q_istore_n C Rm.1 (k4 := 1) (i := 1) rfl (lv' := [(1, .int ((0 : Int32))), (0, .ref a0)]) rfl (by decide) (by decide +kernel) ?_
  refine q_iload_n C (k4 := 1) 0 rfl (by decide +kernel) ?_
  refine q_bipush C (n := 20) (v := 20) (by decide) (by decide +kernel) ?_
  refine q_icge_f C (off := 22) 40 (by decide) (by decide +kernel) (by decide) ?_
  refine q_aload_n C (k4 := 0) 1 rfl (by decide +kernel) ?_
  refine q_getn C fl_2_11 hm (by decide +kernel) (fun v3 hm => ?_)
  refine q_iload_n C (k4 := 1) 0 rfl (by decide +kernel) ?_
  refine q_new C Rm q_FX10 [.int 0, .int 0, .int 0, .null, .null, .null, .null] df_10 cl_X2_9 in_10 ni_10 (by decide) (by decide +kernel) ?_
  refine q_dup C rfl (by decide +kernel) ?_
  refine q_inA C Rm (As := []) (rest := [.ref (z + 1), .int ((0 : Int32)), .ref v3]) Y_X10_init Yi_X10_init ml_X2_15 (by decide) ⟨Nat.le_of_ble_eq_true rfl, Nat.le_of_ble_eq_true rfl⟩ hm (fun z9 h9 e9 => c_X10_init _ _ _ _ _ _ _ e9) rfl rfl (Nat.le_of_ble_eq_true rfl) (by decide +kernel) (fun z5 h6 hm => ?_)
  refine q_rw C (t := 6) (ci := 10) (fun _ => rfl) rfl (by decide) hm (by decide +kernel) (fun h7 hm => ?_)
  refine q_iinc C Rm.1 (i := 1) (n := 1) (v := (1 : Int32)) 0 rfl (by decide) (lv' := [(1, .int ((1 : Int32))), (0, .ref a0)]) rfl (by decide) (by decide +kernel) ?_
  refine q_goto C (off := -22) 15 (by decide +kernel) (by decide) ?_
  refine q_iload_n C (k4 := 1) 0 rfl (by decide +kernel) ?_
  refine q_bipush C (n := 20) (v := 20) (by decide) (by decide +kernel) ?_
  refine q_icge_f C (off := 22) 40 (by decide) (by decide +kernel) (by decide) ?_
  refine q_aload_n C (k4 := 0) 1 rfl (by decide +kernel) ?_
  refine q_getn C fl_2_11 hm (by decide +kernel) (fun v8 hm => ?_)
  refine q_iload_n C (k4 := 1) 0 rfl (by decide +kernel) ?_
  refine q_new C Rm q_FX10 [.int 0, .int 0, .int 0, .null, .null, .null, .null] df_10 cl_X2_9 in_10 ni_10 (by decide) (by decide +kernel) ?_
  refine q_dup C rfl (by decide +kernel) ?_
  refine q_inA C Rm (As := []) (rest := [.ref z5, .int ((1 : Int32)), .ref v8]) Y_X10_init Yi_X10_init ml_X2_15 (by decide) ⟨Nat.le_of_ble_eq_true rfl, Nat.le_of_ble_eq_true rfl⟩ hm (fun z9 h9 e9 => c_X10_init _ _ _ _ _ _ _ e9) rfl rfl (Nat.le_of_ble_eq_true rfl) (by decide +kernel) (fun z10 h11 hm => ?_)
  refine q_rw C (t := 6) (ci := 10) (fun _ => rfl) rfl (by decide) hm (by decide +kernel) (fun h12 hm => ?_)
  refine q_iinc C Rm.1 (i := 1) (n := 1) (v := (2 : Int32)) 0 rfl (by decide) (lv' := [(1, .int ((2 : Int32))), (0, .ref a0)]) rfl (by decide) (by decide +kernel) ?_
  refine q_goto C (off := -22) 15 (by decide +kernel) (by decide) ?_
  refine q_iload_n C (k4 := 1) 0 rfl (by decide +kernel) ?_
  refine q_bipush C (n := 20) (v := 20) (by decide) (by decide +kernel) ?_
  refine q_icge_f C (off := 22) 40 (by decide) (by decide +kernel) (by decide) ?_
  refine q_aload_n C (k4 := 0) 1 rfl (by decide +kernel) ?_
  refine q_getn C fl_2_11 hm (by decide +kernel) (fun v13 hm => ?_)
  refine q_iload_n C (k4 := 1) 0 rfl (by decide +kernel) ?_
  refine q_new C Rm q_FX10 [.int 0, .int 0, .int 0, .null, .null, .null, .null] df_10 cl_X2_9 in_10 ni_10 (by decide) (by decide +kernel) ?_
  refine q_dup C rfl (by decide +kernel) ?_
  refine q_inA C Rm (As := []) (rest := [.ref z10, .int ((2 : Int32)), .ref v13]) Y_X10_init Yi_X10_init ml_X2_15 (by decide) ⟨Nat.le_of_ble_eq_true rfl, Nat.le_of_ble_eq_true rfl⟩ hm (fun z9 h9 e9 => c_X10_init _ _ _ _ _ _ _ e9) rfl rfl (Nat.le_of_ble_eq_true rfl) (by decide +kernel) (fun z15 h16 hm => ?_)
  refine q_rw C (t := 6) (ci := 10) (fun _ => rfl) rfl (by decide) hm (by decide +kernel) (fun h17 hm => ?_)
  refine q_iinc C Rm.1 (i := 1) (n := 1) (v := (3 : Int32)) 0 rfl (by decide) (lv' := [(1, .int ((3 : Int32))), (0, .ref a0)]) rfl (by decide) (by decide +kernel) ?_
  refine q_goto C (off := -22) 15 (by decide +kernel) (by decide) ?_
  refine q_iload_n C (k4 := 1) 0 rfl (by decide +kernel) ?_
  refine q_bipush C (n := 20) (v := 20) (by decide) (by decide +kernel) ?_
  refine q_icge_f C (off := 22) 40 (by decide) (by decide +kernel) (by decide) ?_
  refine q_aload_n C (k4 := 0) 1 rfl (by decide +kernel) ?_
  refine q_getn C fl_2_11 hm (by decide +kernel) (fun v18 hm => ?_)
  refine q_iload_n C (k4 := 1) 0 rfl (by decide +kernel) ?_
  refine q_new C Rm q_FX10 [.int 0, .int 0, .int 0, .null, .null, .null, .null] df_10 cl_X2_9 in_10 ni_10 (by decide) (by decide +kernel) ?_
  refine q_dup C rfl (by decide +kernel) ?_
  refine q_inA C Rm (As := []) (rest := [.ref z15, .int ((3 : Int32)), .ref v18]) Y_X10_init Yi_X10_init ml_X2_15 (by decide) ⟨Nat.le_of_ble_eq_true rfl, Nat.le_of_ble_eq_true rfl⟩ hm (fun z9 h9 e9 => c_X10_init _ _ _ _ _ _ _ e9) rfl rfl (Nat.le_of_ble_eq_true rfl) (by decide +kernel) (fun z20 h21 hm => ?_)
  refine q_rw C (t := 6) (ci := 10) (fun _ => rfl) rfl (by decide) hm (by decide +kernel) (fun h22 hm => ?_)
  refine q_iinc C Rm.1 (i := 1) (n := 1) (v := (4 : Int32)) 0 rfl (by decide) (lv' := [(1, .int ((4 : Int32))), (0, .ref a0)]) rfl (by decide) (by decide +kernel) ?_
  refine q_goto C (off := -22) 15 (by decide +kernel) (by decide) ?_
  refine q_iload_n C (k4 := 1) 0 rfl (by decide +kernel) ?_
  refine q_bipush C (n := 20) (v := 20) (by decide) (by decide +kernel) ?_
  refine q_icge_f C (off := 22) 40 (by decide) (by decide +kernel) (by decide) ?_
  refine q_aload_n C (k4 := 0) 1 rfl (by decide +kernel) ?_
  refine q_getn C fl_2_11 hm (by decide +kernel) (fun v23 hm => ?_)
  refine q_iload_n C (k4 := 1) 0 rfl (by decide +kernel) ?_
  refine q_new C Rm q_FX10 [.int 0, .int 0, .int 0, .null, .null, .null, .null] df_10 cl_X2_9 in_10 ni_10 (by decide) (by decide +kernel) ?_
  refine q_dup C rfl (by decide +kernel) ?_
  refine q_inA C Rm (As := []) (rest := [.ref z20, .int ((4 : Int32)), .ref v23]) Y_X10_init Yi_X10_init ml_X2_15 (by decide) ⟨Nat.le_of_ble_eq_true rfl, Nat.le_of_ble_eq_true rfl⟩ hm (fun z9 h9 e9 => c_X10_init _ _ _ _ _ _ _ e9) rfl rfl (Nat.le_of_ble_eq_true rfl) (by decide +kernel) (fun z25 h26 hm => ?_)
  refine q_rw C (t := 6) (ci := 10) (fun _ => rfl) rfl (by decide) hm (by decide +kernel) (fun h27 hm => ?_)
  refine q_iinc C Rm.1 (i := 1) (n := 1) (v := (5 : Int32)) 0 rfl (by decide) (lv' := [(1, .int ((5 : Int32))), (0, .ref a0)]) rfl (by decide) (by decide +kernel) ?_
  refine q_goto C (off := -22) 15 (by decide +kernel) (by decide) ?_
  refine q_iload_n C (k4 := 1) 0 rfl (by decide +kernel) ?_
  refine q_bipush C (n := 20) (v := 20) (by decide) (by decide +kernel) ?_
  refine q_icge_f C (off := 22) 40 (by decide) (by decide +kernel) (by decide) ?_
  refine q_aload_n C (k4 := 0) 1 rfl (by decide +kernel) ?_
  refine q_getn C fl_2_11 hm (by decide +kernel) (fun v28 hm => ?_)
  refine q_iload_n C (k4 := 1) 0 rfl (by decide +kernel) ?_
  refine q_new C Rm q_FX10 [.int 0, .int 0, .int 0, .null, .null, .null, .null] df_10 cl_X2_9 in_10 ni_10 (by decide) (by decide +kernel) ?_
  refine q_dup C rfl (by decide +kernel) ?_
  refine q_inA C Rm (As := []) (rest := [.ref z25, .int ((5 : Int32)), .ref v28]) Y_X10_init Yi_X10_init ml_X2_15 (by decide) ⟨Nat.le_of_ble_eq_true rfl, Nat.le_of_ble_eq_true rfl⟩ hm (fun z9 h9 e9 => c_X10_init _ _ _ _ _ _ _ e9) rfl rfl (Nat.le_of_ble_eq_true rfl) (by decide +kernel) (fun z30 h31 hm => ?_)
  refine q_rw C (t := 6) (ci := 10) (fun _ => rfl) rfl (by decide) hm (by decide +kernel) (fun h32 hm => ?_)
  refine q_iinc C Rm.1 (i := 1) (n := 1) (v := (6 : Int32)) 0 rfl (by decide) (lv' := [(1, .int ((6 : Int32))), (0, .ref a0)]) rfl (by decide) (by decide +kernel) ?_
  refine q_goto C (off := -22) 15 (by decide +kernel) (by decide) ?_
  refine q_iload_n C (k4 := 1) 0 rfl (by decide +kernel) ?_
  refine q_bipush C (n := 20) (v := 20) (by decide) (by decide +kernel) ?_
  refine q_icge_f C (off := 22) 40 (by decide) (by decide +kernel) (by decide) ?_
  refine q_aload_n C (k4 := 0) 1 rfl (by decide +kernel) ?_
  refine q_getn C fl_2_11 hm (by decide +kernel) (fun v33 hm => ?_)
  refine q_iload_n C (k4 := 1) 0 rfl (by decide +kernel) ?_
  refine q_new C Rm q_FX10 [.int 0, .int 0, .int 0, .null, .null, .null, .null] df_10 cl_X2_9 in_10 ni_10 (by decide) (by decide +kernel) ?_
  refine q_dup C rfl (by decide +kernel) ?_
  refine q_inA C Rm (As := []) (rest := [.ref z30, .int ((6 : Int32)), .ref v33]) Y_X10_init Yi_X10_init ml_X2_15 (by decide) ⟨Nat.le_of_ble_eq_true rfl, Nat.le_of_ble_eq_true rfl⟩ hm (fun z9 h9 e9 => c_X10_init _ _ _ _ _ _ _ e9) rfl rfl (Nat.le_of_ble_eq_true rfl) (by decide +kernel) (fun z35 h36 hm => ?_)
  refine q_rw C (t := 6) (ci := 10) (fun _ => rfl) rfl (by decide) hm (by decide +kernel) (fun h37 hm => ?_)
  refine q_iinc C Rm.1 (i := 1) (n := 1) (v := (7 : Int32)) 0 rfl (by decide) (lv' := [(1, .int ((7 : Int32))), (0, .ref a0)]) rfl (by decide) (by decide +kernel) ?_
  refine q_goto C (off := -22) 15 (by decide +kernel) (by decide) ?_
  refine q_iload_n C (k4 := 1) 0 rfl (by decide +kernel) ?_
  refine q_bipush C (n := 20) (v := 20) (by decide) (by decide +kernel) ?_
  refine q_icge_f C (off := 22) 40 (by decide) (by decide +kernel) (by decide) ?_
  refine q_aload_n C (k4 := 0) 1 rfl (by decide +kernel) ?_
  refine q_getn C fl_2_11 hm (by decide +kernel) (fun v38 hm => ?_)
  refine q_iload_n C (k4 := 1) 0 rfl (by decide +kernel) ?_
  refine q_new C Rm q_FX10 [.int 0, .int 0, .int 0, .null, .null, .null, .null] df_10 cl_X2_9 in_10 ni_10 (by decide) (by decide +kernel) ?_
  refine q_dup C rfl (by decide +kernel) ?_
  refine q_inA C Rm (As := []) (rest := [.ref z35, .int ((7 : Int32)), .ref v38]) Y_X10_init Yi_X10_init ml_X2_15 (by decide) ⟨Nat.le_of_ble_eq_true rfl, Nat.le_of_ble_eq_true rfl⟩ hm (fun z9 h9 e9 => c_X10_init _ _ _ _ _ _ _ e9) rfl rfl (Nat.le_of_ble_eq_true rfl) (by decide +kernel) (fun z40 h41 hm => ?_)
  refine q_rw C (t := 6) (ci := 10) (fun _ => rfl) rfl (by decide) hm (by decide +kernel) (fun h42 hm => ?_)
  refine q_iinc C Rm.1 (i := 1) (n := 1) (v := (8 : Int32)) 0 rfl (by decide) (lv' := [(1, .int ((8 : Int32))), (0, .ref a0)]) rfl (by decide) (by decide +kernel) ?_
  refine q_goto C (off := -22) 15 (by decide +kernel) (by decide) ?_
  refine q_iload_n C (k4 := 1) 0 rfl (by decide +kernel) ?_
  refine q_bipush C (n := 20) (v := 20) (by decide) (by decide +kernel) ?_
  refine q_icge_f C (off := 22) 40 (by decide) (by decide +kernel) (by decide) ?_
  refine q_aload_n C (k4 := 0) 1 rfl (by decide +kernel) ?_
  refine q_getn C fl_2_11 hm (by decide +kernel) (fun v43 hm => ?_)
  refine q_iload_n C (k4 := 1) 0 rfl (by decide +kernel) ?_
  refine q_new C Rm q_FX10 [.int 0, .int 0, .int 0, .null, .null, .null, .null] df_10 cl_X2_9 in_10 ni_10 (by decide) (by decide +kernel) ?_
  refine q_dup C rfl (by decide +kernel) ?_
  refine q_inA C Rm (As := []) (rest := [.ref z40, .int ((8 : Int32)), .ref v43]) Y_X10_init Yi_X10_init ml_X2_15 (by decide) ⟨Nat.le_of_ble_eq_true rfl, Nat.le_of_ble_eq_true rfl⟩ hm (fun z9 h9 e9 => c_X10_init _ _ _ _ _ _ _ e9) rfl rfl (Nat.le_of_ble_eq_true rfl) (by decide +kernel) (fun z45 h46 hm => ?_)
  refine q_rw C (t := 6) (ci := 10) (fun _ => rfl) rfl (by decide) hm (by decide +kernel) (fun h47 hm => ?_)
  refine q_iinc C Rm.1 (i := 1) (n := 1) (v := (9 : Int32)) 0 rfl (by decide) (lv' := [(1, .int ((9 : Int32))), (0, .ref a0)]) rfl (by decide) (by decide +kernel) ?_
  refine q_goto C (off := -22) 15 (by decide +kernel) (by decide) ?_
  refine q_iload_n C (k4 := 1) 0 rfl (by decide +kernel) ?_
  refine q_bipush C (n := 20) (v := 20) (by decide) (by decide +kernel) ?_
  refine q_icge_f C (off := 22) 40 (by decide) (by decide +kernel) (by decide) ?_
  refine q_aload_n C (k4 := 0) 1 rfl (by decide +kernel) ?_
  refine q_getn C fl_2_11 hm (by decide +kernel) (fun v48 hm => ?_)
  refine q_iload_n C (k4 := 1) 0 rfl (by decide +kernel) ?_
  refine q_new C Rm q_FX10 [.int 0, .int 0, .int 0, .null, .null, .null, .null] df_10 cl_X2_9 in_10 ni_10 (by decide) (by decide +kernel) ?_
  refine q_dup C rfl (by decide +kernel) ?_
  refine q_inA C Rm (As := []) (rest := [.ref z45, .int ((9 : Int32)), .ref v48]) Y_X10_init Yi_X10_init ml_X2_15 (by decide) ⟨Nat.le_of_ble_eq_true rfl, Nat.le_of_ble_eq_true rfl⟩ hm (fun z9 h9 e9 => c_X10_init _ _ _ _ _ _ _ e9) rfl rfl (Nat.le_of_ble_eq_true rfl) (by decide +kernel) (fun z50 h51 hm => ?_)
  refine q_rw C (t := 6) (ci := 10) (fun _ => rfl) rfl (by decide) hm (by decide +kernel) (fun h52 hm => ?_)
  refine q_iinc C Rm.1 (i := 1) (n := 1) (v := (10 : Int32)) 0 rfl (by decide) (lv' := [(1, .int ((10 : Int32))), (0, .ref a0)]) rfl (by decide) (by decide +kernel) ?_
  refine q_goto C (off := -22) 15 (by decide +kernel) (by decide) ?_
  refine q_iload_n C (k4 := 1) 0 rfl (by decide +kernel) ?_
  refine q_bipush C (n := 20) (v := 20) (by decide) (by decide +kernel) ?_
  refine q_icge_f C (off := 22) 40 (by decide) (by decide +kernel) (by decide) ?_
  refine q_aload_n C (k4 := 0) 1 rfl (by decide +kernel) ?_
  refine q_getn C fl_2_11 hm (by decide +kernel) (fun v53 hm => ?_)
  refine q_iload_n C (k4 := 1) 0 rfl (by decide +kernel) ?_
  refine q_new C Rm q_FX10 [.int 0, .int 0, .int 0, .null, .null, .null, .null] df_10 cl_X2_9 in_10 ni_10 (by decide) (by decide +kernel) ?_
  refine q_dup C rfl (by decide +kernel) ?_
  refine q_inA C Rm (As := []) (rest := [.ref z50, .int ((10 : Int32)), .ref v53]) Y_X10_init Yi_X10_init ml_X2_15 (by decide) ⟨Nat.le_of_ble_eq_true rfl, Nat.le_of_ble_eq_true rfl⟩ hm (fun z9 h9 e9 => c_X10_init _ _ _ _ _ _ _ e9) rfl rfl (Nat.le_of_ble_eq_true rfl) (by decide +kernel) (fun z55 h56 hm => ?_)
  refine q_rw C (t := 6) (ci := 10) (fun _ => rfl) rfl (by decide) hm (by decide +kernel) (fun h57 hm => ?_)
  refine q_iinc C Rm.1 (i := 1) (n := 1) (v := (11 : Int32)) 0 rfl (by decide) (lv' := [(1, .int ((11 : Int32))), (0, .ref a0)]) rfl (by decide) (by decide +kernel) ?_
  refine q_goto C (off := -22) 15 (by decide +kernel) (by decide) ?_
  refine q_iload_n C (k4 := 1) 0 rfl (by decide +kernel) ?_
  refine q_bipush C (n := 20) (v := 20) (by decide) (by decide +kernel) ?_
  refine q_icge_f C (off := 22) 40 (by decide) (by decide +kernel) (by decide) ?_
  refine q_aload_n C (k4 := 0) 1 rfl (by decide +kernel) ?_
  refine q_getn C fl_2_11 hm (by decide +kernel) (fun v58 hm => ?_)
  refine q_iload_n C (k4 := 1) 0 rfl (by decide +kernel) ?_
  refine q_new C Rm q_FX10 [.int 0, .int 0, .int 0, .null, .null, .null, .null] df_10 cl_X2_9 in_10 ni_10 (by decide) (by decide +kernel) ?_
  refine q_dup C rfl (by decide +kernel) ?_
  refine q_inA C Rm (As := []) (rest := [.ref z55, .int ((11 : Int32)), .ref v58]) Y_X10_init Yi_X10_init ml_X2_15 (by decide) ⟨Nat.le_of_ble_eq_true rfl, Nat.le_of_ble_eq_true rfl⟩ hm (fun z9 h9 e9 => c_X10_init _ _ _ _ _ _ _ e9) rfl rfl (Nat.le_of_ble_eq_true rfl) (by decide +kernel) (fun z60 h61 hm => ?_)
  refine q_rw C (t := 6) (ci := 10) (fun _ => rfl) rfl (by decide) hm (by decide +kernel) (fun h62 hm => ?_)
  refine q_iinc C Rm.1 (i := 1) (n := 1) (v := (12 : Int32)) 0 rfl (by decide) (lv' := [(1, .int ((12 : Int32))), (0, .ref a0)]) rfl (by decide) (by decide +kernel) ?_
  refine q_goto C (off := -22) 15 (by decide +kernel) (by decide) ?_
  refine q_iload_n C (k4 := 1) 0 rfl (by decide +kernel) ?_
  refine q_bipush C (n := 20) (v := 20) (by decide) (by decide +kernel) ?_
  refine q_icge_f C (off := 22) 40 (by decide) (by decide +kernel) (by decide) ?_
  refine q_aload_n C (k4 := 0) 1 rfl (by decide +kernel) ?_
  refine q_getn C fl_2_11 hm (by decide +kernel) (fun v63 hm => ?_)
  refine q_iload_n C (k4 := 1) 0 rfl (by decide +kernel) ?_
  refine q_new C Rm q_FX10 [.int 0, .int 0, .int 0, .null, .null, .null, .null] df_10 cl_X2_9 in_10 ni_10 (by decide) (by decide +kernel) ?_
  refine q_dup C rfl (by decide +kernel) ?_
  refine q_inA C Rm (As := []) (rest := [.ref z60, .int ((12 : Int32)), .ref v63]) Y_X10_init Yi_X10_init ml_X2_15 (by decide) ⟨Nat.le_of_ble_eq_true rfl, Nat.le_of_ble_eq_true rfl⟩ hm (fun z9 h9 e9 => c_X10_init _ _ _ _ _ _ _ e9) rfl rfl (Nat.le_of_ble_eq_true rfl) (by decide +kernel) (fun z65 h66 hm => ?_)
  refine q_rw C (t := 6) (ci := 10) (fun _ => rfl) rfl (by decide) hm (by decide +kernel) (fun h67 hm => ?_)
  refine q_iinc C Rm.1 (i := 1) (n := 1) (v := (13 : Int32)) 0 rfl (by decide) (lv' := [(1, .int ((13 : Int32))), (0, .ref a0)]) rfl (by decide) (by decide +kernel) ?_
  refine q_goto C (off := -22) 15 (by decide +kernel) (by decide) ?_
  refine q_iload_n C (k4 := 1) 0 rfl (by decide +kernel) ?_
  refine q_bipush C (n := 20) (v := 20) (by decide) (by decide +kernel) ?_
  refine q_icge_f C (off := 22) 40 (by decide) (by decide +kernel) (by decide) ?_
  refine q_aload_n C (k4 := 0) 1 rfl (by decide +kernel) ?_
  refine q_getn C fl_2_11 hm (by decide +kernel) (fun v68 hm => ?_)
  refine q_iload_n C (k4 := 1) 0 rfl (by decide +kernel) ?_
  refine q_new C Rm q_FX10 [.int 0, .int 0, .int 0, .null, .null, .null, .null] df_10 cl_X2_9 in_10 ni_10 (by decide) (by decide +kernel) ?_
  refine q_dup C rfl (by decide +kernel) ?_
  refine q_inA C Rm (As := []) (rest := [.ref z65, .int ((13 : Int32)), .ref v68]) Y_X10_init Yi_X10_init ml_X2_15 (by decide) ⟨Nat.le_of_ble_eq_true rfl, Nat.le_of_ble_eq_true rfl⟩ hm (fun z9 h9 e9 => c_X10_init _ _ _ _ _ _ _ e9) rfl rfl (Nat.le_of_ble_eq_true rfl) (by decide +kernel) (fun z70 h71 hm => ?_)
  refine q_rw C (t := 6) (ci := 10) (fun _ => rfl) rfl (by decide) hm (by decide +kernel) (fun h72 hm => ?_)
  refine q_iinc C Rm.1 (i := 1) (n := 1) (v := (14 : Int32)) 0 rfl (by decide) (lv' := [(1, .int ((14 : Int32))), (0, .ref a0)]) rfl (by decide) (by decide +kernel) ?_
  refine q_goto C (off := -22) 15 (by decide +kernel) (by decide) ?_
  refine q_iload_n C (k4 := 1) 0 rfl (by decide +kernel) ?_
  refine q_bipush C (n := 20) (v := 20) (by decide) (by decide +kernel) ?_
  refine q_icge_f C (off := 22) 40 (by decide) (by decide +kernel) (by decide) ?_
  refine q_aload_n C (k4 := 0) 1 rfl (by decide +kernel) ?_
  refine q_getn C fl_2_11 hm (by decide +kernel) (fun v73 hm => ?_)
  refine q_iload_n C (k4 := 1) 0 rfl (by decide +kernel) ?_
  refine q_new C Rm q_FX10 [.int 0, .int 0, .int 0, .null, .null, .null, .null] df_10 cl_X2_9 in_10 ni_10 (by decide) (by decide +kernel) ?_
  refine q_dup C rfl (by decide +kernel) ?_
  refine q_inA C Rm (As := []) (rest := [.ref z70, .int ((14 : Int32)), .ref v73]) Y_X10_init Yi_X10_init ml_X2_15 (by decide) ⟨Nat.le_of_ble_eq_true rfl, Nat.le_of_ble_eq_true rfl⟩ hm (fun z9 h9 e9 => c_X10_init _ _ _ _ _ _ _ e9) rfl rfl (Nat.le_of_ble_eq_true rfl) (by decide +kernel) (fun z75 h76 hm => ?_)
  refine q_rw C (t := 6) (ci := 10) (fun _ => rfl) rfl (by decide) hm (by decide +kernel) (fun h77 hm => ?_)
  refine q_iinc C Rm.1 (i := 1) (n := 1) (v := (15 : Int32)) 0 rfl (by decide) (lv' := [(1, .int ((15 : Int32))), (0, .ref a0)]) rfl (by decide) (by decide +kernel) ?_
  refine q_goto C (off := -22) 15 (by decide +kernel) (by decide) ?_
  refine q_iload_n C (k4 := 1) 0 rfl (by decide +kernel) ?_
  refine q_bipush C (n := 20) (v := 20) (by decide) (by decide +kernel) ?_
  refine q_icge_f C (off := 22) 40 (by decide) (by decide +kernel) (by decide) ?_
  refine q_aload_n C (k4 := 0) 1 rfl (by decide +kernel) ?_
  refine q_getn C fl_2_11 hm (by decide +kernel) (fun v78 hm => ?_)
  refine q_iload_n C (k4 := 1) 0 rfl (by decide +kernel) ?_
  refine q_new C Rm q_FX10 [.int 0, .int 0, .int 0, .null, .null, .null, .null] df_10 cl_X2_9 in_10 ni_10 (by decide) (by decide +kernel) ?_
  refine q_dup C rfl (by decide +kernel) ?_
  refine q_inA C Rm (As := []) (rest := [.ref z75, .int ((15 : Int32)), .ref v78]) Y_X10_init Yi_X10_init ml_X2_15 (by decide) ⟨Nat.le_of_ble_eq_true rfl, Nat.le_of_ble_eq_true rfl⟩ hm (fun z9 h9 e9 => c_X10_init _ _ _ _ _ _ _ e9) rfl rfl (Nat.le_of_ble_eq_true rfl) (by decide +kernel) (fun z80 h81 hm => ?_)
  refine q_rw C (t := 6) (ci := 10) (fun _ => rfl) rfl (by decide) hm (by decide +kernel) (fun h82 hm => ?_)
  refine q_iinc C Rm.1 (i := 1) (n := 1) (v := (16 : Int32)) 0 rfl (by decide) (lv' := [(1, .int ((16 : Int32))), (0, .ref a0)]) rfl (by decide) (by decide +kernel) ?_
  refine q_goto C (off := -22) 15 (by decide +kernel) (by decide) ?_
  refine q_iload_n C (k4 := 1) 0 rfl (by decide +kernel) ?_
  refine q_bipush C (n := 20) (v := 20) (by decide) (by decide +kernel) ?_
  refine q_icge_f C (off := 22) 40 (by decide) (by decide +kernel) (by decide) ?_
  refine q_aload_n C (k4 := 0) 1 rfl (by decide +kernel) ?_
  refine q_getn C fl_2_11 hm (by decide +kernel) (fun v83 hm => ?_)
  refine q_iload_n C (k4 := 1) 0 rfl (by decide +kernel) ?_
  refine q_new C Rm q_FX10 [.int 0, .int 0, .int 0, .null, .null, .null, .null] df_10 cl_X2_9 in_10 ni_10 (by decide) (by decide +kernel) ?_
  refine q_dup C rfl (by decide +kernel) ?_
  refine q_inA C Rm (As := []) (rest := [.ref z80, .int ((16 : Int32)), .ref v83]) Y_X10_init Yi_X10_init ml_X2_15 (by decide) ⟨Nat.le_of_ble_eq_true rfl, Nat.le_of_ble_eq_true rfl⟩ hm (fun z9 h9 e9 => c_X10_init _ _ _ _ _ _ _ e9) rfl rfl (Nat.le_of_ble_eq_true rfl) (by decide +kernel) (fun z85 h86 hm => ?_)
  refine q_rw C (t := 6) (ci := 10) (fun _ => rfl) rfl (by decide) hm (by decide +kernel) (fun h87 hm => ?_)
  refine q_iinc C Rm.1 (i := 1) (n := 1) (v := (17 : Int32)) 0 rfl (by decide) (lv' := [(1, .int ((17 : Int32))), (0, .ref a0)]) rfl (by decide) (by decide +kernel) ?_
  refine q_goto C (off := -22) 15 (by decide +kernel) (by decide) ?_
  refine q_iload_n C (k4 := 1) 0 rfl (by decide +kernel) ?_
  refine q_bipush C (n := 20) (v := 20) (by decide) (by decide +kernel) ?_
  refine q_icge_f C (off := 22) 40 (by decide) (by decide +kernel) (by decide) ?_
  refine q_aload_n C (k4 := 0) 1 rfl (by decide +kernel) ?_
  refine q_getn C fl_2_11 hm (by decide +kernel) (fun v88 hm => ?_)
  refine q_iload_n C (k4 := 1) 0 rfl (by decide +kernel) ?_
  refine q_new C Rm q_FX10 [.int 0, .int 0, .int 0, .null, .null, .null, .null] df_10 cl_X2_9 in_10 ni_10 (by decide) (by decide +kernel) ?_
  refine q_dup C rfl (by decide +kernel) ?_
  refine q_inA C Rm (As := []) (rest := [.ref z85, .int ((17 : Int32)), .ref v88]) Y_X10_init Yi_X10_init ml_X2_15 (by decide) ⟨Nat.le_of_ble_eq_true rfl, Nat.le_of_ble_eq_true rfl⟩ hm (fun z9 h9 e9 => c_X10_init _ _ _ _ _ _ _ e9) rfl rfl (Nat.le_of_ble_eq_true rfl) (by decide +kernel) (fun z90 h91 hm => ?_)
  refine q_rw C (t := 6) (ci := 10) (fun _ => rfl) rfl (by decide) hm (by decide +kernel) (fun h92 hm => ?_)
  refine q_iinc C Rm.1 (i := 1) (n := 1) (v := (18 : Int32)) 0 rfl (by decide) (lv' := [(1, .int ((18 : Int32))), (0, .ref a0)]) rfl (by decide) (by decide +kernel) ?_
  refine q_goto C (off := -22) 15 (by decide +kernel) (by decide) ?_
  refine q_iload_n C (k4 := 1) 0 rfl (by decide +kernel) ?_
  refine q_bipush C (n := 20) (v := 20) (by decide) (by decide +kernel) ?_
  refine q_icge_f C (off := 22) 40 (by decide) (by decide +kernel) (by decide) ?_
  refine q_aload_n C (k4 := 0) 1 rfl (by decide +kernel) ?_
  refine q_getn C fl_2_11 hm (by decide +kernel) (fun v93 hm => ?_)
  refine q_iload_n C (k4 := 1) 0 rfl (by decide +kernel) ?_
  refine q_new C Rm q_FX10 [.int 0, .int 0, .int 0, .null, .null, .null, .null] df_10 cl_X2_9 in_10 ni_10 (by decide) (by decide +kernel) ?_
  refine q_dup C rfl (by decide +kernel) ?_
  refine q_inA C Rm (As := []) (rest := [.ref z90, .int ((18 : Int32)), .ref v93]) Y_X10_init Yi_X10_init ml_X2_15 (by decide) ⟨Nat.le_of_ble_eq_true rfl, Nat.le_of_ble_eq_true rfl⟩ hm (fun z9 h9 e9 => c_X10_init _ _ _ _ _ _ _ e9) rfl rfl (Nat.le_of_ble_eq_true rfl) (by decide +kernel) (fun z95 h96 hm => ?_)
  refine q_rw C (t := 6) (ci := 10) (fun _ => rfl) rfl (by decide) hm (by decide +kernel) (fun h97 hm => ?_)
  refine q_iinc C Rm.1 (i := 1) (n := 1) (v := (19 : Int32)) 0 rfl (by decide) (lv' := [(1, .int ((19 : Int32))), (0, .ref a0)]) rfl (by decide) (by decide +kernel) ?_
  refine q_goto C (off := -22) 15 (by decide +kernel) (by decide) ?_
  refine q_iload_n C (k4 := 1) 0 rfl (by decide +kernel) ?_
  refine q_bipush C (n := 20) (v := 20) (by decide) (by decide +kernel) ?_
  refine q_icge_f C (off := 22) 40 (by decide) (by decide +kernel) (by decide) ?_
  refine q_aload_n C (k4 := 0) 1 rfl (by decide +kernel) ?_
  refine q_getn C fl_2_11 hm (by decide +kernel) (fun v98 hm => ?_)
  refine q_iload_n C (k4 := 1) 0 rfl (by decide +kernel) ?_
  refine q_new C Rm q_FX10 [.int 0, .int 0, .int 0, .null, .null, .null, .null] df_10 cl_X2_9 in_10 ni_10 (by decide) (by decide +kernel) ?_
  refine q_dup C rfl (by decide +kernel) ?_
  refine q_inA C Rm (As := []) (rest := [.ref z95, .int ((19 : Int32)), .ref v98]) Y_X10_init Yi_X10_init ml_X2_15 (by decide) ⟨Nat.le_of_ble_eq_true rfl, Nat.le_of_ble_eq_true rfl⟩ hm (fun z9 h9 e9 => c_X10_init _ _ _ _ _ _ _ e9) rfl rfl (Nat.le_of_ble_eq_true rfl) (by decide +kernel) (fun z100 h101 hm => ?_)
  refine q_rw C (t := 6) (ci := 10) (fun _ => rfl) rfl (by decide) hm (by decide +kernel) (fun h102 hm => ?_)
  refine q_iinc C Rm.1 (i := 1) (n := 1) (v := (20 : Int32)) 0 rfl (by decide) (lv' := [(1, .int ((20 : Int32))), (0, .ref a0)]) rfl (by decide) (by decide +kernel) ?_
  refine q_goto C (off := -22) 15 (by decide +kernel) (by decide) ?_
  refine q_iload_n C (k4 := 1) 0 rfl (by decide +kernel) ?_
  refine q_bipush C (n := 20) (v := 20) (by decide) (by decide +kernel) ?_
  refine q_icge_t C (off := 22) 40 (by decide) (by decide +kernel) (by decide) ?_
  exact q_rvA hm K ⟨Nat.le_of_ble_eq_true rfl, Nat.le_of_ble_eq_true rfl⟩ (by decide +kernel)
def m_X3_init (z : Nat) (h : q_H) (a0 : Nat) (a1 : Nat) : Option (Nat × q_H) :=
  (q_pf h a0 3 0 (.ref a1)).bind fun h1 =>
  let h2 := va_up h1 z (.inl (1, 401, .inl (fun _ => 0)))
  (q_pf h2 a0 3 1 (.ref z)).bind fun h3 =>
  let h4 := va_up h3 (z + 1) (.inl (1, 401, .inl (fun _ => 0)))
  (q_pf h4 a0 3 2 (.ref (z + 1))).bind fun h5 =>
  let h6 := va_up h5 (z + 1 + 1) (.inl (1, 401, .inl (fun _ => 0)))
  (q_pf h6 a0 3 3 (.ref (z + 1 + 1))).bind fun h7 =>
  some (z + 1 + 1 + 1, h7)
set_option maxRecDepth 20000 in
set_option maxHeartbeats 1000000 in
theorem c_X3_init (l : Launch) (base : Nat) (D : va_G) (tc : Nat → ClassId) (z : Nat) (h : q_H) (a0 : Nat) (a1 : Nat) {sz' : Nat} {h' : q_H} (hm : m_X3_init z h a0 a1 = some (sz', h')) : q_M l yX3_init cX3_init 2 none 3 80 3 1203 base D tc [.ref a0, .ref a1] z h none sz' h' := by
  refine q_startv (by decide) (Nat.le_of_ble_eq_true rfl) (fun Γ B K => ?_)
  obtain ⟨C, Rm, -, -, -, -, hin⟩ := B
  have hin : Γ.1.2.2.2.2.2.2.2.2.1.name = "<init>" := hin
  have C : q_C Γ cX3_init RX3 := C
  show q_V Γ z 0 0 h [(0, .ref a0), (1, .ref a1)] [] 0
  unfold m_X3_init at hm
  refine q_aload_n C (k4 := 0) 0 rfl (by decide +kernel) ?_
  refine q_obj C Rm ml_X3_5 ob_i ob_c (by decide) (by decide +kernel) ?_
  refine q_aload_n C (k4 := 0) 0 rfl (by decide +kernel) ?_
  refine q_aload_n C (k4 := 1) 1 rfl (by decide +kernel) ?_
  refine q_putF C hin ff_3_11 hm rfl rfl (by decide +kernel) (fun h1 hm => ?_)
  refine q_aload_n C (k4 := 0) 0 rfl (by decide +kernel) ?_
  refine q_sipush C (n := 401) (v := 401) (by decide) (by decide +kernel) ?_
  refine q_newa C Rm (atype := .int) (t := 1) (N' := 401) (ty := .int) (n := 401) (.inl (fun _ => 0)) rfl aw_int (fun _ => rfl) (fun _ _ h => h) (fun _ => rfl) (by decide) (by decide +kernel) (Nat.le_of_ble_eq_true rfl) ⟨Nat.le_of_ble_eq_true rfl, Nat.le_of_ble_eq_true rfl⟩ (by decide +kernel) ?_
  refine q_putF C hin ff_3_17 hm rfl rfl (by decide +kernel) (fun h3 hm => ?_)
  refine q_aload_n C (k4 := 0) 0 rfl (by decide +kernel) ?_
  refine q_sipush C (n := 401) (v := 401) (by decide) (by decide +kernel) ?_
  refine q_newa C Rm (atype := .int) (t := 1) (N' := 401) (ty := .int) (n := 401) (.inl (fun _ => 0)) rfl aw_int (fun _ => rfl) (fun _ _ h => h) (fun _ => rfl) (by decide) (by decide +kernel) (Nat.le_of_ble_eq_true rfl) ⟨Nat.le_of_ble_eq_true rfl, Nat.le_of_ble_eq_true rfl⟩ (by decide +kernel) ?_
  refine q_putF C hin ff_3_21 hm rfl rfl (by decide +kernel) (fun h5 hm => ?_)
  refine q_aload_n C (k4 := 0) 0 rfl (by decide +kernel) ?_
  refine q_sipush C (n := 401) (v := 401) (by decide) (by decide +kernel) ?_
  refine q_newa C Rm (atype := .int) (t := 1) (N' := 401) (ty := .int) (n := 401) (.inl (fun _ => 0)) rfl aw_int (fun _ => rfl) (fun _ _ h => h) (fun _ => rfl) (by decide) (by decide +kernel) (Nat.le_of_ble_eq_true rfl) ⟨Nat.le_of_ble_eq_true rfl, Nat.le_of_ble_eq_true rfl⟩ (by decide +kernel) ?_
  refine q_putF C hin ff_3_24 hm rfl rfl (by decide +kernel) (fun h7 hm => ?_)
  exact q_rvA hm K ⟨Nat.le_of_ble_eq_true rfl, Nat.le_of_ble_eq_true rfl⟩ (by decide +kernel)
def m_X3_wordIn_85 (k10 : q_H → Nat → Int32 → Int32 → Int32 → Int32 → Int32 → Option Int32) (h0 : q_H) (x0 : Nat) (x1 : Int32) (x2 : Int32) (x3 : Int32) (x4 : Int32) (x5 : Int32) : Option Int32 :=
  k10 h0 x0 x1 x2 x3 x4 ((x5 + (1 : Int32)))
set_option maxRecDepth 20000 in
set_option maxHeartbeats 1000000 in
theorem v_X3_wordIn_85 {Γ : q_G} {sz : Nat} {h0 : q_H} {r : Int32} (C : q_C Γ cX3_wordIn RX3) (Rm : q_Rm Γ 7 4 90 0 0) {k10 : q_H → Nat → Int32 → Int32 → Int32 → Int32 → Int32 → Option Int32} (K : narrow .int (.int r) = .int r → q_K Γ cX3_wordIn .ireturn sz h0 0 0 [.int r]) (hk10 : ∀ (x0 : Nat) (x1 : Int32) (x2 : Int32) (x3 : Int32) (x4 : Int32) (x5 : Int32), k10 h0 x0 x1 x2 x3 x4 x5 = some r → q_V Γ sz 0 0 h0 [(0, .ref x0), (1, .int x1), (2, .int x2), (3, .int x3), (4, .int x4), (5, .int x5)] [] 10) : ∀ (x0 : Nat) (x1 : Int32) (x2 : Int32) (x3 : Int32) (x4 : Int32) (x5 : Int32), m_X3_wordIn_85 k10 h0 x0 x1 x2 x3 x4 x5 = some r → q_V Γ sz 0 0 h0 [(0, .ref x0), (1, .int x1), (2, .int x2), (3, .int x3), (4, .int x4), (5, .int x5)] [] 85 := by
  intro x0 x1 x2 x3 x4 x5 hm
  unfold m_X3_wordIn_85 at hm
  refine q_iinc C Rm.1 (i := 5) (n := 1) (v := (x5 + (1 : Int32))) 5 rfl (q_inc _ (by decide)) (lv' := [(5, .int ((x5 + (1 : Int32)))), (0, .ref x0), (1, .int x1), (2, .int x2), (3, .int x3), (4, .int x4)]) rfl (by decide) (by decide +kernel) ?_
  refine q_goto C (off := -78) 10 (by decide +kernel) (by decide) ?_
  refine q_loc [1, 2, 3, 4, 5, 0] rfl ?_
  exact hk10 _ _ _ _ _ _ hm
def m_X3_wordIn_66 (k10 : q_H → Nat → Int32 → Int32 → Int32 → Int32 → Int32 → Option Int32) (h0 : q_H) (x0 : Nat) (x1 : Int32) (x2 : Int32) (x3 : Int32) (x5 : Int32) (s0 : Int32) : Option Int32 :=
  m_X3_wordIn_85 k10 h0 x0 x1 x2 x3 s0 x5
set_option maxRecDepth 20000 in
set_option maxHeartbeats 1000000 in
theorem v_X3_wordIn_66 {Γ : q_G} {sz : Nat} {h0 : q_H} {r : Int32} (C : q_C Γ cX3_wordIn RX3) (Rm : q_Rm Γ 7 4 90 0 0) {k10 : q_H → Nat → Int32 → Int32 → Int32 → Int32 → Int32 → Option Int32} (K : narrow .int (.int r) = .int r → q_K Γ cX3_wordIn .ireturn sz h0 0 0 [.int r]) (hk10 : ∀ (x0 : Nat) (x1 : Int32) (x2 : Int32) (x3 : Int32) (x4 : Int32) (x5 : Int32), k10 h0 x0 x1 x2 x3 x4 x5 = some r → q_V Γ sz 0 0 h0 [(0, .ref x0), (1, .int x1), (2, .int x2), (3, .int x3), (4, .int x4), (5, .int x5)] [] 10) : ∀ (x0 : Nat) (x1 : Int32) (x2 : Int32) (x3 : Int32) (x5 : Int32) (s0 : Int32), m_X3_wordIn_66 k10 h0 x0 x1 x2 x3 x5 s0 = some r → q_V Γ sz 0 0 h0 [(0, .ref x0), (1, .int x1), (2, .int x2), (3, .int x3), (5, .int x5)] [.int s0] 66 := by
  intro x0 x1 x2 x3 x5 s0 hm
  unfold m_X3_wordIn_66 at hm
  refine q_istore C Rm.1 (i := 4) (lv' := [(4, .int s0), (0, .ref x0), (1, .int x1), (2, .int x2), (3, .int x3), (5, .int x5)]) rfl (by decide) (by decide +kernel) ?_
  refine q_goto C (off := 17) 85 (by decide +kernel) (by decide) ?_
  refine q_loc [1, 2, 3, 4, 0, 5] rfl ?_
  exact v_X3_wordIn_85 C Rm K hk10 _ _ _ _ _ _ hm
def m_X3_wordIn_63 (k10 : q_H → Nat → Int32 → Int32 → Int32 → Int32 → Int32 → Option Int32) (h0 : q_H) (x0 : Nat) (x1 : Int32) (x2 : Int32) (x3 : Int32) (x5 : Int32) : Option Int32 :=
  m_X3_wordIn_66 k10 h0 x0 x1 x2 x3 x5 ((401 : Int32))
set_option maxRecDepth 20000 in
set_option maxHeartbeats 1000000 in
theorem v_X3_wordIn_63 {Γ : q_G} {sz : Nat} {h0 : q_H} {r : Int32} (C : q_C Γ cX3_wordIn RX3) (Rm : q_Rm Γ 7 4 90 0 0) {k10 : q_H → Nat → Int32 → Int32 → Int32 → Int32 → Int32 → Option Int32} (K : narrow .int (.int r) = .int r → q_K Γ cX3_wordIn .ireturn sz h0 0 0 [.int r]) (hk10 : ∀ (x0 : Nat) (x1 : Int32) (x2 : Int32) (x3 : Int32) (x4 : Int32) (x5 : Int32), k10 h0 x0 x1 x2 x3 x4 x5 = some r → q_V Γ sz 0 0 h0 [(0, .ref x0), (1, .int x1), (2, .int x2), (3, .int x3), (4, .int x4), (5, .int x5)] [] 10) : ∀ (x0 : Nat) (x1 : Int32) (x2 : Int32) (x3 : Int32) (x5 : Int32), m_X3_wordIn_63 k10 h0 x0 x1 x2 x3 x5 = some r → q_V Γ sz 0 0 h0 [(0, .ref x0), (1, .int x1), (2, .int x2), (3, .int x3), (5, .int x5)] [] 63 := by
  intro x0 x1 x2 x3 x5 hm
  unfold m_X3_wordIn_63 at hm
  refine q_sipush C (n := 401) (v := 401) (by decide) (by decide +kernel) ?_
  exact v_X3_wordIn_66 C Rm K hk10 _ _ _ _ _ _ hm
def m_X3_wordIn_10  : Nat → q_H → Nat → Int32 → Int32 → Int32 → Int32 → Int32 → Option Int32
  | 0, _, _, _, _, _, _, _ => none
  | n + 1, h0, x0, x1, x2, x3, x4, x5 =>
    if (91 : Int32) ≤ x5 then
      some ((602 : Int32))
    else
      (q_ch x5).bind fun v1 =>
      if v1 = (32 : Int32) then
        if x4 = x2 then
          some x3
        else
          m_X3_wordIn_85 (m_X3_wordIn_10 n) h0 x0 x1 x2 ((x3 + (1 : Int32))) x1 x5
      else
        if x2 ≤ x4 then
          m_X3_wordIn_63 (m_X3_wordIn_10 n) h0 x0 x1 x2 x3 x5
        else
          (q_gn h0 x0 3 0).bind fun v3 =>
          (q_ca 9 h0 v3 (m_X9_byteAt h0 v3 x4)).bind fun r4 =>
          if r4 = v1 then
            m_X3_wordIn_66 (m_X3_wordIn_10 n) h0 x0 x1 x2 x3 x5 ((x4 + (1 : Int32)))
          else
            m_X3_wordIn_63 (m_X3_wordIn_10 n) h0 x0 x1 x2 x3 x5
set_option maxRecDepth 20000 in
set_option maxHeartbeats 1000000 in
theorem v_X3_wordIn_10 {Γ : q_G} {sz : Nat} {h0 : q_H} {r : Int32} (C : q_C Γ cX3_wordIn RX3) (Rm : q_Rm Γ 7 4 90 0 0)  (K : narrow .int (.int r) = .int r → q_K Γ cX3_wordIn .ireturn sz h0 0 0 [.int r])  : ∀ (n : Nat) (x0 : Nat) (x1 : Int32) (x2 : Int32) (x3 : Int32) (x4 : Int32) (x5 : Int32), m_X3_wordIn_10 n h0 x0 x1 x2 x3 x4 x5 = some r → q_V Γ sz 0 0 h0 [(0, .ref x0), (1, .int x1), (2, .int x2), (3, .int x3), (4, .int x4), (5, .int x5)] [] 10 := by
  intro n
  induction n with
  | zero => intro x0 x1 x2 x3 x4 x5 hm; cases hm
  | succ n ih =>
    intro x0 x1 x2 x3 x4 x5 hm
    unfold m_X3_wordIn_10 at hm
    refine q_iload C (i := 5) 5 rfl (by decide +kernel) ?_
    refine q_ldcS C (by decide +kernel) ?_
    refine q_callS C Rm (As := []) (rest := [.int x5]) Y_J0_length_8abf5 Yn_J0_length_8abf5 Yt_J0_length_8abf5 mj_J0_length_TugRopeReader_73 (by decide) (by decide) (c_J0_length_8abf5 _ _ _ _ _ _) rfl rfl (Nat.le_of_ble_eq_true rfl) (by decide +kernel) (fun _ => ?_)
    refine q_icmp_ge C (off := 74) 91 hm (by decide +kernel) (by decide) (fun _ hm => ?_) (fun _ hm => ?_)
    · refine q_sipush C (n := 602) (v := 602) (by decide) (by decide +kernel) ?_
      exact q_riP hm K rfl (by decide +kernel)
    · refine q_ldcS C (by decide +kernel) ?_
      refine q_iload C (i := 5) 5 rfl (by decide +kernel) ?_
      obtain ⟨v1, w2, hm⟩ := q_b hm
      refine q_callS C Rm (As := [.int x5]) (rest := []) Y_J0_charAt_5068e Yn_J0_charAt_5068e Yt_J0_charAt_5068e mj_J0_charAt_TugRopeReader_78 (by decide) (by decide) (c_J0_charAt_5068e _ _ _ _ _ _ _ _ w2) rfl rfl (Nat.le_of_ble_eq_true rfl) (by decide +kernel) (fun _ => ?_)
      refine q_istore C Rm.1 (i := 6) (lv' := [(6, .int v1), (0, .ref x0), (1, .int x1), (2, .int x2), (3, .int x3), (4, .int x4), (5, .int x5)]) rfl (by decide) (by decide +kernel) ?_
      refine q_iload C (i := 6) 0 rfl (by decide +kernel) ?_
      refine q_bipush C (n := 32) (v := 32) (by decide) (by decide +kernel) ?_
      refine q_icmp_eq C (off := 38) 71 hm (by decide +kernel) (by decide) (fun _ hm => ?_) (fun _ hm => ?_)
      · refine q_iload C (i := 4) 5 rfl (by decide +kernel) ?_
        refine q_iload_n C (k4 := 2) 3 rfl (by decide +kernel) ?_
        refine q_icmp_ne C (off := 5) 79 hm (by decide +kernel) (by decide) (fun _ hm => ?_) (fun _ hm => ?_)
        · refine q_iinc C Rm.1 (i := 3) (n := 1) (v := (x3 + (1 : Int32))) 4 rfl (q_inc _ (by decide)) (lv' := [(3, .int ((x3 + (1 : Int32)))), (6, .int v1), (0, .ref x0), (1, .int x1), (2, .int x2), (4, .int x4), (5, .int x5)]) rfl (by decide) (by decide +kernel) ?_
          refine q_iload_n C (k4 := 1) 3 rfl (by decide +kernel) ?_
          refine q_istore C Rm.1 (i := 4) (lv' := [(4, .int x1), (3, .int ((x3 + (1 : Int32)))), (6, .int v1), (0, .ref x0), (1, .int x1), (2, .int x2), (5, .int x5)]) rfl (by decide) (by decide +kernel) ?_
          refine q_loc [3, 4, 5, 1, 0, 6] rfl ?_
          exact v_X3_wordIn_85 C Rm K ih _ _ _ _ _ _ hm
        · refine q_iload_n C (k4 := 3) 4 rfl (by decide +kernel) ?_
          exact q_riP hm K rfl (by decide +kernel)
      · refine q_iload C (i := 4) 5 rfl (by decide +kernel) ?_
        refine q_iload_n C (k4 := 2) 3 rfl (by decide +kernel) ?_
        refine q_icmp_ge C (off := 24) 63 hm (by decide +kernel) (by decide) (fun _ hm => ?_) (fun _ hm => ?_)
        · refine q_loc [1, 2, 3, 4, 6] rfl ?_
          exact v_X3_wordIn_63 C Rm K ih _ _ _ _ _ hm
        · refine q_aload_n C (k4 := 0) 1 rfl (by decide +kernel) ?_
          refine q_getn C fl_3_11 hm (by decide +kernel) (fun v3 hm => ?_)
          refine q_iload C (i := 4) 5 rfl (by decide +kernel) ?_
          refine q_viP C Rm (As := [.int x4]) (rest := []) Y_X9_byteAt Yv_X9_byteAt ml_X3_34 (by decide) (by decide) hm (fun r9 e9 => c_X9_byteAt _ _ _ _ _ _ _ _ e9) rfl rfl (Nat.le_of_ble_eq_true rfl) (by decide +kernel) (fun r4 hm z5 => ?_)
          refine q_iload C (i := 6) 0 rfl (by decide +kernel) ?_
          refine q_icmp_ne C (off := 10) 63 hm (by decide +kernel) (by decide) (fun _ hm => ?_) (fun _ hm => ?_)
          · refine q_loc [1, 2, 3, 4, 6] rfl ?_
            exact v_X3_wordIn_63 C Rm K ih _ _ _ _ _ hm
          · refine q_iload C (i := 4) 5 rfl (by decide +kernel) ?_
            refine q_iconst C (n := 1) (v := 1) (by decide) (by decide +kernel) ?_
            refine q_iadd C (by decide +kernel) ?_
            refine q_goto C (off := 6) 66 (by decide +kernel) (by decide) ?_
            refine q_loc [1, 2, 3, 4, 6] rfl ?_
            exact v_X3_wordIn_66 C Rm K ih _ _ _ _ _ _ hm
def m_X3_wordIn (h0 : q_H) (a0 : Nat) (a1 : Int32) (a2 : Int32) : Option Int32 :=
  m_X3_wordIn_10 q_fu h0 a0 a1 a2 ((700 : Int32)) a1 ((0 : Int32))
set_option maxRecDepth 20000 in
set_option maxHeartbeats 1000000 in
theorem c_X3_wordIn (l : Launch) (base : Nat) (D : va_G) (tc : Nat → ClassId) (sz : Nat) (h0 : q_H) (a0 : Nat) (a1 : Int32) (a2 : Int32) {r : Int32} (hm : m_X3_wordIn h0 a0 a1 a2 = some r) : q_M l yX3_wordIn cX3_wordIn 7 (some .int) 4 90 0 0 base D tc [.ref a0, .int a1, .int a2] sz h0 (some (.int r)) sz h0 := by
  refine q_starti (by decide) (Nat.le_of_ble_eq_true rfl) (fun Γ B K => ?_)
  obtain ⟨C, Rm, -⟩ := B
  have C : q_C Γ cX3_wordIn RX3 := C
  show q_V Γ sz 0 0 h0 [(0, .ref a0), (1, .int a1), (2, .int a2)] [] 0
  unfold m_X3_wordIn at hm
  refine q_sipush C (n := 700) (v := 700) (by decide) (by decide +kernel) ?_
  refine q_istore_n C Rm.1 (k4 := 3) (i := 3) rfl (lv' := [(3, .int ((700 : Int32))), (0, .ref a0), (1, .int a1), (2, .int a2)]) rfl (by decide) (by decide +kernel) ?_
  refine q_iload_n C (k4 := 1) 2 rfl (by decide +kernel) ?_
  refine q_istore C Rm.1 (i := 4) (lv' := [(4, .int a1), (3, .int ((700 : Int32))), (0, .ref a0), (1, .int a1), (2, .int a2)]) rfl (by decide) (by decide +kernel) ?_
  refine q_iconst C (n := 0) (v := 0) (by decide) (by decide +kernel) ?_
  refine q_istore C Rm.1 (i := 5) (lv' := [(5, .int ((0 : Int32))), (4, .int a1), (3, .int ((700 : Int32))), (0, .ref a0), (1, .int a1), (2, .int a2)]) rfl (by decide) (by decide +kernel) ?_
  refine q_loc [3, 4, 5, 2, 1, 0] rfl ?_
  exact v_X3_wordIn_10 C Rm K _ _ _ _ _ _ _ hm
def m_X3_part_131  (h : q_H) (x0 : Nat) (x1 : Int32) (x2 : Int32) (x3 : Int32) : Option (Int32 × q_H) :=
  (q_ca 3 h x0 (m_X3_add h x0 x2 ((-1 : Int32)) x1)).bind fun h17 =>
  some (x3, h17)
set_option maxRecDepth 20000 in
set_option maxHeartbeats 1000000 in
theorem v_X3_part_131 {Γ : q_G} {sz : Nat} {r : Int32} {h' : q_H} (C : q_C Γ cX3_part RX3) (Rm : q_Rm Γ 4 5 116 0 0)  (K : narrow .int (.int r) = .int r → q_K Γ cX3_part .ireturn sz h' 0 0 [.int r])  : ∀ (h : q_H) (x0 : Nat) (x1 : Int32) (x2 : Int32) (x3 : Int32), m_X3_part_131 h x0 x1 x2 x3 = some (r, h') → q_V Γ sz 0 0 h [(0, .ref x0), (1, .int x1), (2, .int x2), (3, .int x3)] [] 131 := by
  intro h x0 x1 x2 x3 hm
  unfold m_X3_part_131 at hm
  refine q_aload_n C (k4 := 0) 0 rfl (by decide +kernel) ?_
  refine q_iload_n C (k4 := 2) 2 rfl (by decide +kernel) ?_
  refine q_iconst C (n := (-1)) (v := (-1)) (by decide) (by decide +kernel) ?_
  refine q_iload_n C (k4 := 1) 1 rfl (by decide +kernel) ?_
  refine q_vvS C Rm (As := [.int x2, .int ((-1 : Int32)), .int x1]) (rest := []) Y_X3_add Yv_X3_add ml_X3_41 (by decide) (by decide) hm (fun h17 e9 => c_X3_add _ _ _ _ _ _ _ _ _ _ e9) rfl rfl (Nat.le_of_ble_eq_true rfl) (by decide +kernel) (fun h17 hm => ?_)
  refine q_iload_n C (k4 := 3) 3 rfl (by decide +kernel) ?_
  exact q_riS hm K rfl (by decide +kernel)
def m_X3_part_101  (h : q_H) (x0 : Nat) (x1 : Int32) (x2 : Int32) (x3 : Int32) : Option (Int32 × q_H) :=
  (q_gn h x0 3 0).bind fun v18 =>
  (q_ca 9 h v18 (m_X9_byteAt h v18 x3)).bind fun r19 =>
  if r19 = (61 : Int32) then
    (q_ca 3 h x0 (m_X3_add h x0 ((x2 + (256 : Int32))) ((-1 : Int32)) x1)).bind fun h22 =>
    some ((x3 + (1 : Int32)), h22)
  else
    m_X3_part_131 h x0 x1 x2 x3
set_option maxRecDepth 20000 in
set_option maxHeartbeats 1000000 in
theorem v_X3_part_101 {Γ : q_G} {sz : Nat} {r : Int32} {h' : q_H} (C : q_C Γ cX3_part RX3) (Rm : q_Rm Γ 4 5 116 0 0)  (K : narrow .int (.int r) = .int r → q_K Γ cX3_part .ireturn sz h' 0 0 [.int r])  : ∀ (h : q_H) (x0 : Nat) (x1 : Int32) (x2 : Int32) (x3 : Int32), m_X3_part_101 h x0 x1 x2 x3 = some (r, h') → q_V Γ sz 0 0 h [(0, .ref x0), (1, .int x1), (2, .int x2), (3, .int x3)] [] 101 := by
  intro h x0 x1 x2 x3 hm
  unfold m_X3_part_101 at hm
  refine q_aload_n C (k4 := 0) 0 rfl (by decide +kernel) ?_
  refine q_getn C fl_3_11 hm (by decide +kernel) (fun v18 hm => ?_)
  refine q_iload_n C (k4 := 3) 3 rfl (by decide +kernel) ?_
  refine q_viP C Rm (As := [.int x3]) (rest := []) Y_X9_byteAt Yv_X9_byteAt ml_X3_34 (by decide) (by decide) hm (fun r9 e9 => c_X9_byteAt _ _ _ _ _ _ _ _ e9) rfl rfl (Nat.le_of_ble_eq_true rfl) (by decide +kernel) (fun r19 hm z20 => ?_)
  refine q_bipush C (n := 61) (v := 61) (by decide) (by decide +kernel) ?_
  refine q_icmp_ne C (off := 20) 131 hm (by decide +kernel) (by decide) (fun _ hm => ?_) (fun _ hm => ?_)
  · exact v_X3_part_131 C Rm K _ _ _ _ _ hm
  · refine q_iinc C Rm.1 (i := 3) (n := 1) (v := (x3 + (1 : Int32))) 3 rfl (q_inc _ (by decide)) (lv' := [(3, .int ((x3 + (1 : Int32)))), (0, .ref x0), (1, .int x1), (2, .int x2)]) rfl (by decide) (by decide +kernel) ?_
    refine q_aload_n C (k4 := 0) 1 rfl (by decide +kernel) ?_
    refine q_iload_n C (k4 := 2) 3 rfl (by decide +kernel) ?_
    refine q_sipush C (n := 256) (v := 256) (by decide) (by decide +kernel) ?_
    refine q_iadd C (by decide +kernel) ?_
    refine q_iconst C (n := (-1)) (v := (-1)) (by decide) (by decide +kernel) ?_
    refine q_iload_n C (k4 := 1) 2 rfl (by decide +kernel) ?_
    refine q_vvS C Rm (As := [.int ((x2 + (256 : Int32))), .int ((-1 : Int32)), .int x1]) (rest := []) Y_X3_add Yv_X3_add ml_X3_41 (by decide) (by decide) hm (fun h22 e9 => c_X3_add _ _ _ _ _ _ _ _ _ _ e9) rfl rfl (Nat.le_of_ble_eq_true rfl) (by decide +kernel) (fun h22 hm => ?_)
    refine q_goto C (off := 10) 138 (by decide +kernel) (by decide) ?_
    refine q_iload_n C (k4 := 3) 0 rfl (by decide +kernel) ?_
    exact q_riS hm K rfl (by decide +kernel)
def m_X3_part_89  (h : q_H) (x0 : Nat) (x1 : Int32) (x2 : Int32) (x3 : Int32) : Option (Int32 × q_H) :=
  if x2 = (60 : Int32) then
    m_X3_part_101 h x0 x1 x2 x3
  else
    if x2 = (62 : Int32) then
      m_X3_part_101 h x0 x1 x2 x3
    else
      m_X3_part_131 h x0 x1 x2 x3
set_option maxRecDepth 20000 in
set_option maxHeartbeats 1000000 in
theorem v_X3_part_89 {Γ : q_G} {sz : Nat} {r : Int32} {h' : q_H} (C : q_C Γ cX3_part RX3) (Rm : q_Rm Γ 4 5 116 0 0)  (K : narrow .int (.int r) = .int r → q_K Γ cX3_part .ireturn sz h' 0 0 [.int r])  : ∀ (h : q_H) (x0 : Nat) (x1 : Int32) (x2 : Int32) (x3 : Int32), m_X3_part_89 h x0 x1 x2 x3 = some (r, h') → q_V Γ sz 0 0 h [(0, .ref x0), (1, .int x1), (2, .int x2), (3, .int x3)] [] 89 := by
  intro h x0 x1 x2 x3 hm
  unfold m_X3_part_89 at hm
  refine q_iload_n C (k4 := 2) 2 rfl (by decide +kernel) ?_
  refine q_bipush C (n := 60) (v := 60) (by decide) (by decide +kernel) ?_
  refine q_icmp_eq C (off := 9) 101 hm (by decide +kernel) (by decide) (fun _ hm => ?_) (fun _ hm => ?_)
  · exact v_X3_part_101 C Rm K _ _ _ _ _ hm
  · refine q_iload_n C (k4 := 2) 2 rfl (by decide +kernel) ?_
    refine q_bipush C (n := 62) (v := 62) (by decide) (by decide +kernel) ?_
    refine q_icmp_ne C (off := 33) 131 hm (by decide +kernel) (by decide) (fun _ hm => ?_) (fun _ hm => ?_)
    · exact v_X3_part_131 C Rm K _ _ _ _ _ hm
    · exact v_X3_part_101 C Rm K _ _ _ _ _ hm
def m_X3_part_52  (h : q_H) (x0 : Nat) (x1 : Int32) (x2 : Int32) (x3 : Int32) : Option (Int32 × q_H) :=
  if x2 < (97 : Int32) then
    m_X3_part_89 h x0 x1 x2 x3
  else
    if (122 : Int32) < x2 then
      m_X3_part_89 h x0 x1 x2 x3
    else
      (q_ca 3 h x0 (m_X3_behind h x0 x1 ((97 : Int32)) ((122 : Int32)))).bind fun r10 =>
      (q_ca 3 h x0 (m_X3_wordIn h x0 x1 r10)).bind fun r12 =>
      (q_ca 3 h x0 (m_X3_add h x0 r12 ((-1 : Int32)) x1)).bind fun h15 =>
      some (r10, h15)
set_option maxRecDepth 20000 in
set_option maxHeartbeats 1000000 in
theorem v_X3_part_52 {Γ : q_G} {sz : Nat} {r : Int32} {h' : q_H} (C : q_C Γ cX3_part RX3) (Rm : q_Rm Γ 4 5 116 0 0)  (K : narrow .int (.int r) = .int r → q_K Γ cX3_part .ireturn sz h' 0 0 [.int r])  : ∀ (h : q_H) (x0 : Nat) (x1 : Int32) (x2 : Int32) (x3 : Int32), m_X3_part_52 h x0 x1 x2 x3 = some (r, h') → q_V Γ sz 0 0 h [(0, .ref x0), (1, .int x1), (2, .int x2), (3, .int x3)] [] 52 := by
  intro h x0 x1 x2 x3 hm
  unfold m_X3_part_52 at hm
  refine q_iload_n C (k4 := 2) 2 rfl (by decide +kernel) ?_
  refine q_bipush C (n := 97) (v := 97) (by decide) (by decide +kernel) ?_
  refine q_icmp_lt C (off := 34) 89 hm (by decide +kernel) (by decide) (fun _ hm => ?_) (fun _ hm => ?_)
  · exact v_X3_part_89 C Rm K _ _ _ _ _ hm
  · refine q_iload_n C (k4 := 2) 2 rfl (by decide +kernel) ?_
    refine q_bipush C (n := 122) (v := 122) (by decide) (by decide +kernel) ?_
    refine q_icmp_gt C (off := 28) 89 hm (by decide +kernel) (by decide) (fun _ hm => ?_) (fun _ hm => ?_)
    · exact v_X3_part_89 C Rm K _ _ _ _ _ hm
    · refine q_aload_n C (k4 := 0) 0 rfl (by decide +kernel) ?_
      refine q_iload_n C (k4 := 1) 1 rfl (by decide +kernel) ?_
      refine q_bipush C (n := 97) (v := 97) (by decide) (by decide +kernel) ?_
      refine q_bipush C (n := 122) (v := 122) (by decide) (by decide +kernel) ?_
      refine q_viP C Rm (As := [.int x1, .int ((97 : Int32)), .int ((122 : Int32))]) (rest := []) Y_X3_behind Yv_X3_behind ml_X3_60 (by decide) (by decide) hm (fun r9 e9 => c_X3_behind _ _ _ _ _ _ _ _ _ _ e9) rfl rfl (Nat.le_of_ble_eq_true rfl) (by decide +kernel) (fun r10 hm z11 => ?_)
      refine q_istore_n C Rm.1 (k4 := 3) (i := 3) rfl (lv' := [(3, .int r10), (0, .ref x0), (1, .int x1), (2, .int x2)]) rfl (by decide) (by decide +kernel) ?_
      refine q_aload_n C (k4 := 0) 1 rfl (by decide +kernel) ?_
      refine q_aload_n C (k4 := 0) 1 rfl (by decide +kernel) ?_
      refine q_iload_n C (k4 := 1) 2 rfl (by decide +kernel) ?_
      refine q_iload_n C (k4 := 3) 0 rfl (by decide +kernel) ?_
      refine q_viP C Rm (As := [.int x1, .int r10]) (rest := [.ref x0]) Y_X3_wordIn Yv_X3_wordIn ml_X3_68 (by decide) (by decide) hm (fun r9 e9 => c_X3_wordIn _ _ _ _ _ _ _ _ _ e9) rfl rfl (Nat.le_of_ble_eq_true rfl) (by decide +kernel) (fun r12 hm z13 => ?_)
      refine q_iconst C (n := (-1)) (v := (-1)) (by decide) (by decide +kernel) ?_
      refine q_iload_n C (k4 := 1) 2 rfl (by decide +kernel) ?_
      refine q_vvS C Rm (As := [.int r12, .int ((-1 : Int32)), .int x1]) (rest := []) Y_X3_add Yv_X3_add ml_X3_41 (by decide) (by decide) hm (fun h15 e9 => c_X3_add _ _ _ _ _ _ _ _ _ _ e9) rfl rfl (Nat.le_of_ble_eq_true rfl) (by decide +kernel) (fun h15 hm => ?_)
      refine q_goto C (off := 52) 138 (by decide +kernel) (by decide) ?_
      refine q_iload_n C (k4 := 3) 0 rfl (by decide +kernel) ?_
      exact q_riS hm K rfl (by decide +kernel)
def m_X3_part (h : q_H) (a0 : Nat) (a1 : Int32) : Option (Int32 × q_H) :=
  (q_gn h a0 3 0).bind fun v1 =>
  (q_ca 9 h v1 (m_X9_byteAt h v1 a1)).bind fun r2 =>
  if r2 < (48 : Int32) then
    m_X3_part_52 h a0 a1 r2 ((a1 + (1 : Int32)))
  else
    if (57 : Int32) < r2 then
      m_X3_part_52 h a0 a1 r2 ((a1 + (1 : Int32)))
    else
      (q_ca 3 h a0 (m_X3_behind h a0 a1 ((48 : Int32)) ((57 : Int32)))).bind fun r4 =>
      (q_ca 3 h a0 (m_X3_numberIn h a0 a1 r4)).bind fun r6 =>
      (q_ca 3 h a0 (m_X3_add h a0 ((601 : Int32)) r6 a1)).bind fun h9 =>
      some (r4, h9)
set_option maxRecDepth 20000 in
set_option maxHeartbeats 1000000 in
theorem c_X3_part (l : Launch) (base : Nat) (D : va_G) (tc : Nat → ClassId) (sz : Nat) (h : q_H) (a0 : Nat) (a1 : Int32) {r : Int32} {h' : q_H} (hm : m_X3_part h a0 a1 = some (r, h')) : q_M l yX3_part cX3_part 4 (some .int) 5 116 0 0 base D tc [.ref a0, .int a1] sz h (some (.int r)) sz h' := by
  refine q_starti (by decide) (Nat.le_of_ble_eq_true rfl) (fun Γ B K => ?_)
  obtain ⟨C, Rm, -⟩ := B
  have C : q_C Γ cX3_part RX3 := C
  show q_V Γ sz 0 0 h [(0, .ref a0), (1, .int a1)] [] 0
  unfold m_X3_part at hm
  refine q_aload_n C (k4 := 0) 0 rfl (by decide +kernel) ?_
  refine q_getn C fl_3_11 hm (by decide +kernel) (fun v1 hm => ?_)
  refine q_iload_n C (k4 := 1) 1 rfl (by decide +kernel) ?_
  refine q_viP C Rm (As := [.int a1]) (rest := []) Y_X9_byteAt Yv_X9_byteAt ml_X3_34 (by decide) (by decide) hm (fun r9 e9 => c_X9_byteAt _ _ _ _ _ _ _ _ e9) rfl rfl (Nat.le_of_ble_eq_true rfl) (by decide +kernel) (fun r2 hm z3 => ?_)
  refine q_istore_n C Rm.1 (k4 := 2) (i := 2) rfl (lv' := [(2, .int r2), (0, .ref a0), (1, .int a1)]) rfl (by decide) (by decide +kernel) ?_
  refine q_iload_n C (k4 := 1) 2 rfl (by decide +kernel) ?_
  refine q_iconst C (n := 1) (v := 1) (by decide) (by decide +kernel) ?_
  refine q_iadd C (by decide +kernel) ?_
  refine q_istore_n C Rm.1 (k4 := 3) (i := 3) rfl (lv' := [(3, .int ((a1 + (1 : Int32)))), (2, .int r2), (0, .ref a0), (1, .int a1)]) rfl (by decide) (by decide +kernel) ?_
  refine q_iload_n C (k4 := 2) 1 rfl (by decide +kernel) ?_
  refine q_bipush C (n := 48) (v := 48) (by decide) (by decide +kernel) ?_
  refine q_icmp_lt C (off := 36) 52 hm (by decide +kernel) (by decide) (fun _ hm => ?_) (fun _ hm => ?_)
  · refine q_loc [2, 3, 1, 0] rfl ?_
    exact v_X3_part_52 C Rm K _ _ _ _ _ hm
  · refine q_iload_n C (k4 := 2) 1 rfl (by decide +kernel) ?_
    refine q_bipush C (n := 57) (v := 57) (by decide) (by decide +kernel) ?_
    refine q_icmp_gt C (off := 30) 52 hm (by decide +kernel) (by decide) (fun _ hm => ?_) (fun _ hm => ?_)
    · refine q_loc [2, 3, 1, 0] rfl ?_
      exact v_X3_part_52 C Rm K _ _ _ _ _ hm
    · refine q_aload_n C (k4 := 0) 2 rfl (by decide +kernel) ?_
      refine q_iload_n C (k4 := 1) 3 rfl (by decide +kernel) ?_
      refine q_bipush C (n := 48) (v := 48) (by decide) (by decide +kernel) ?_
      refine q_bipush C (n := 57) (v := 57) (by decide) (by decide +kernel) ?_
      refine q_viP C Rm (As := [.int a1, .int ((48 : Int32)), .int ((57 : Int32))]) (rest := []) Y_X3_behind Yv_X3_behind ml_X3_60 (by decide) (by decide) hm (fun r9 e9 => c_X3_behind _ _ _ _ _ _ _ _ _ _ e9) rfl rfl (Nat.le_of_ble_eq_true rfl) (by decide +kernel) (fun r4 hm z5 => ?_)
      refine q_istore_n C Rm.1 (k4 := 3) (i := 3) rfl (lv' := [(3, .int r4), (2, .int r2), (0, .ref a0), (1, .int a1)]) rfl (by decide) (by decide +kernel) ?_
      refine q_aload_n C (k4 := 0) 2 rfl (by decide +kernel) ?_
      refine q_sipush C (n := 601) (v := 601) (by decide) (by decide +kernel) ?_
      refine q_aload_n C (k4 := 0) 2 rfl (by decide +kernel) ?_
      refine q_iload_n C (k4 := 1) 3 rfl (by decide +kernel) ?_
      refine q_iload_n C (k4 := 3) 0 rfl (by decide +kernel) ?_
      refine q_viP C Rm (As := [.int a1, .int r4]) (rest := [.int ((601 : Int32)), .ref a0]) Y_X3_numberIn Yv_X3_numberIn ml_X3_64 (by decide) (by decide) hm (fun r9 e9 => c_X3_numberIn _ _ _ _ _ _ _ _ _ e9) rfl rfl (Nat.le_of_ble_eq_true rfl) (by decide +kernel) (fun r6 hm z7 => ?_)
      refine q_iload_n C (k4 := 1) 3 rfl (by decide +kernel) ?_
      refine q_vvS C Rm (As := [.int ((601 : Int32)), .int r6, .int a1]) (rest := []) Y_X3_add Yv_X3_add ml_X3_41 (by decide) (by decide) hm (fun h9 e9 => c_X3_add _ _ _ _ _ _ _ _ _ _ e9) rfl rfl (Nat.le_of_ble_eq_true rfl) (by decide +kernel) (fun h9 hm => ?_)
      refine q_goto C (off := 89) 138 (by decide +kernel) (by decide) ?_
      refine q_iload_n C (k4 := 3) 0 rfl (by decide +kernel) ?_
      exact q_riS hm K rfl (by decide +kernel)
def m_X3_start_51 (k9 : q_H → Nat → Int32 → Int32 → Option q_H) (h : q_H) (x0 : Nat) (x2 : Int32) (s0 : Int32) : Option q_H :=
  k9 h x0 s0 ((x2 + (1 : Int32)))
set_option maxRecDepth 20000 in
set_option maxHeartbeats 1000000 in
theorem v_X3_start_51 {Γ : q_G} {sz : Nat} {h' : q_H} (C : q_C Γ cX3_start RX3) (Rm : q_Rm Γ 3 6 139 0 0) {k9 : q_H → Nat → Int32 → Int32 → Option q_H} (K : q_K Γ cX3_start .return_ sz h' 0 0 []) (hk9 : ∀ (h : q_H) (x0 : Nat) (x1 : Int32) (x2 : Int32), k9 h x0 x1 x2 = some h' → q_V Γ sz 0 0 h [(0, .ref x0), (1, .int x1), (2, .int x2)] [] 9) : ∀ (h : q_H) (x0 : Nat) (x2 : Int32) (s0 : Int32), m_X3_start_51 k9 h x0 x2 s0 = some h' → q_V Γ sz 0 0 h [(0, .ref x0), (2, .int x2)] [.int s0] 51 := by
  intro h x0 x2 s0 hm
  unfold m_X3_start_51 at hm
  refine q_istore_n C Rm.1 (k4 := 1) (i := 1) rfl (lv' := [(1, .int s0), (0, .ref x0), (2, .int x2)]) rfl (by decide) (by decide +kernel) ?_
  refine q_iinc C Rm.1 (i := 2) (n := 1) (v := (x2 + (1 : Int32))) 2 rfl (q_inc _ (by decide)) (lv' := [(2, .int ((x2 + (1 : Int32)))), (1, .int s0), (0, .ref x0)]) rfl (by decide) (by decide +kernel) ?_
  refine q_goto C (off := -46) 9 (by decide +kernel) (by decide) ?_
  refine q_loc [2, 1, 0] rfl ?_
  exact hk9 _ _ _ _ hm
def m_X3_start_58  (h : q_H) (x0 : Nat) : Option q_H :=
  (q_gn h x0 3 0).bind fun v10 =>
  (q_gi h v10 9 1).bind fun v11 =>
  (q_ca 3 h x0 (m_X3_add h x0 ((600 : Int32)) ((-1 : Int32)) v11)).bind fun h13 =>
  (q_pf h13 x0 3 8 (.int ((0 : Int32)))).bind fun h14 =>
  (q_pf h14 x0 3 5 (.int ((-1 : Int32)))).bind fun h15 =>
  (q_ca 3 h15 x0 (m_X3_next h15 x0)).bind fun h17 =>
  some h17
set_option maxRecDepth 20000 in
set_option maxHeartbeats 1000000 in
theorem v_X3_start_58 {Γ : q_G} {sz : Nat} {h' : q_H} (C : q_C Γ cX3_start RX3) (Rm : q_Rm Γ 3 6 139 0 0)  (K : q_K Γ cX3_start .return_ sz h' 0 0 [])  : ∀ (h : q_H) (x0 : Nat), m_X3_start_58 h x0 = some h' → q_V Γ sz 0 0 h [(0, .ref x0)] [] 58 := by
  intro h x0 hm
  unfold m_X3_start_58 at hm
  refine q_aload_n C (k4 := 0) 0 rfl (by decide +kernel) ?_
  refine q_sipush C (n := 600) (v := 600) (by decide) (by decide +kernel) ?_
  refine q_iconst C (n := (-1)) (v := (-1)) (by decide) (by decide +kernel) ?_
  refine q_aload_n C (k4 := 0) 0 rfl (by decide +kernel) ?_
  refine q_getn C fl_3_11 hm (by decide +kernel) (fun v10 hm => ?_)
  refine q_geti C fl_3_31 hm (by decide +kernel) (fun v11 hm => ?_)
  refine q_vvS C Rm (As := [.int ((600 : Int32)), .int ((-1 : Int32)), .int v11]) (rest := []) Y_X3_add Yv_X3_add ml_X3_41 (by decide) (by decide) hm (fun h13 e9 => c_X3_add _ _ _ _ _ _ _ _ _ _ e9) rfl rfl (Nat.le_of_ble_eq_true rfl) (by decide +kernel) (fun h13 hm => ?_)
  refine q_aload_n C (k4 := 0) 0 rfl (by decide +kernel) ?_
  refine q_iconst C (n := 0) (v := 0) (by decide) (by decide +kernel) ?_
  refine q_putf C fl_3_45 hm rfl rfl (by decide +kernel) (fun h14 hm => ?_)
  refine q_aload_n C (k4 := 0) 0 rfl (by decide +kernel) ?_
  refine q_iconst C (n := (-1)) (v := (-1)) (by decide) (by decide +kernel) ?_
  refine q_putf C fl_3_48 hm rfl rfl (by decide +kernel) (fun h15 hm => ?_)
  refine q_aload_n C (k4 := 0) 0 rfl (by decide +kernel) ?_
  refine q_vvS C Rm (As := []) (rest := []) Y_X3_next Yv_X3_next ml_X3_51 (by decide) (by decide) hm (fun h17 e9 => c_X3_next _ _ _ _ _ _ _ e9) rfl rfl (Nat.le_of_ble_eq_true rfl) (by decide +kernel) (fun h17 hm => ?_)
  exact q_rvS hm K (by decide +kernel)
def m_X3_start_9  : Nat → q_H → Nat → Int32 → Int32 → Option q_H
  | 0, _, _, _, _ => none
  | n + 1, h, x0, x1, x2 =>
    if (400 : Int32) ≤ x2 then
      m_X3_start_58 h x0
    else
      (q_gn h x0 3 0).bind fun v2 =>
      (q_gi h v2 9 1).bind fun v3 =>
      if v3 ≤ x1 then
        m_X3_start_58 h x0
      else
        (q_gn h x0 3 0).bind fun v4 =>
        (q_ca 9 h v4 (m_X9_byteAt h v4 x1)).bind fun r5 =>
        if r5 = (32 : Int32) then
          m_X3_start_51 (m_X3_start_9 n) h x0 x2 ((x1 + (1 : Int32)))
        else
          (q_ca 3 h x0 (m_X3_part h x0 x1)).bind fun (r7, h8) =>
          m_X3_start_51 (m_X3_start_9 n) h8 x0 x2 r7
set_option maxRecDepth 20000 in
set_option maxHeartbeats 1000000 in
theorem v_X3_start_9 {Γ : q_G} {sz : Nat} {h' : q_H} (C : q_C Γ cX3_start RX3) (Rm : q_Rm Γ 3 6 139 0 0)  (K : q_K Γ cX3_start .return_ sz h' 0 0 [])  : ∀ (n : Nat) (h : q_H) (x0 : Nat) (x1 : Int32) (x2 : Int32), m_X3_start_9 n h x0 x1 x2 = some h' → q_V Γ sz 0 0 h [(0, .ref x0), (1, .int x1), (2, .int x2)] [] 9 := by
  intro n
  induction n with
  | zero => intro h x0 x1 x2 hm; cases hm
  | succ n ih =>
    intro h x0 x1 x2 hm
    unfold m_X3_start_9 at hm
    refine q_iload_n C (k4 := 2) 2 rfl (by decide +kernel) ?_
    refine q_sipush C (n := 400) (v := 400) (by decide) (by decide +kernel) ?_
    refine q_icmp_ge C (off := 45) 58 hm (by decide +kernel) (by decide) (fun _ hm => ?_) (fun _ hm => ?_)
    · refine q_loc [0] rfl ?_
      exact v_X3_start_58 C Rm K _ _ hm
    · refine q_iload_n C (k4 := 1) 1 rfl (by decide +kernel) ?_
      refine q_aload_n C (k4 := 0) 0 rfl (by decide +kernel) ?_
      refine q_getn C fl_3_11 hm (by decide +kernel) (fun v2 hm => ?_)
      refine q_geti C fl_3_31 hm (by decide +kernel) (fun v3 hm => ?_)
      refine q_icmp_ge C (off := 34) 58 hm (by decide +kernel) (by decide) (fun _ hm => ?_) (fun _ hm => ?_)
      · refine q_loc [0] rfl ?_
        exact v_X3_start_58 C Rm K _ _ hm
      · refine q_aload_n C (k4 := 0) 0 rfl (by decide +kernel) ?_
        refine q_getn C fl_3_11 hm (by decide +kernel) (fun v4 hm => ?_)
        refine q_iload_n C (k4 := 1) 1 rfl (by decide +kernel) ?_
        refine q_viP C Rm (As := [.int x1]) (rest := []) Y_X9_byteAt Yv_X9_byteAt ml_X3_34 (by decide) (by decide) hm (fun r9 e9 => c_X9_byteAt _ _ _ _ _ _ _ _ e9) rfl rfl (Nat.le_of_ble_eq_true rfl) (by decide +kernel) (fun r5 hm z6 => ?_)
        refine q_bipush C (n := 32) (v := 32) (by decide) (by decide +kernel) ?_
        refine q_icmp_ne C (off := 9) 46 hm (by decide +kernel) (by decide) (fun _ hm => ?_) (fun _ hm => ?_)
        · refine q_aload_n C (k4 := 0) 0 rfl (by decide +kernel) ?_
          refine q_iload_n C (k4 := 1) 1 rfl (by decide +kernel) ?_
          refine q_viS C Rm (As := [.int x1]) (rest := []) Y_X3_part Yv_X3_part ml_X3_38 (by decide) (by decide) hm (fun r7 h8 e9 => c_X3_part _ _ _ _ _ _ _ _ e9) rfl rfl (Nat.le_of_ble_eq_true rfl) (by decide +kernel) (fun r7 h8 hm z9 => ?_)
          refine q_loc [0, 2] rfl ?_
          exact v_X3_start_51 C Rm K ih _ _ _ _ hm
        · refine q_iload_n C (k4 := 1) 1 rfl (by decide +kernel) ?_
          refine q_iconst C (n := 1) (v := 1) (by decide) (by decide +kernel) ?_
          refine q_iadd C (by decide +kernel) ?_
          refine q_goto C (off := 8) 51 (by decide +kernel) (by decide) ?_
          refine q_loc [0, 2] rfl ?_
          exact v_X3_start_51 C Rm K ih _ _ _ _ hm
def m_X3_start (h : q_H) (a0 : Nat) : Option q_H :=
  (q_pf h a0 3 4 (.int ((0 : Int32)))).bind fun h1 =>
  m_X3_start_9 q_fu h1 a0 ((0 : Int32)) ((0 : Int32))
set_option maxRecDepth 20000 in
set_option maxHeartbeats 1000000 in
theorem c_X3_start (l : Launch) (base : Nat) (D : va_G) (tc : Nat → ClassId) (sz : Nat) (h : q_H) (a0 : Nat) {h' : q_H} (hm : m_X3_start h a0 = some h') : q_M l yX3_start cX3_start 3 none 6 139 0 0 base D tc [.ref a0] sz h none sz h' := by
  refine q_startv (by decide) (Nat.le_of_ble_eq_true rfl) (fun Γ B K => ?_)
  obtain ⟨C, Rm, -⟩ := B
  have C : q_C Γ cX3_start RX3 := C
  show q_V Γ sz 0 0 h [(0, .ref a0)] [] 0
  unfold m_X3_start at hm
  refine q_aload_n C (k4 := 0) 0 rfl (by decide +kernel) ?_
  refine q_iconst C (n := 0) (v := 0) (by decide) (by decide +kernel) ?_
  refine q_putf C fl_3_27 hm rfl rfl (by decide +kernel) (fun h1 hm => ?_)
  refine q_iconst C (n := 0) (v := 0) (by decide) (by decide +kernel) ?_
  refine q_istore_n C Rm.1 (k4 := 1) (i := 1) rfl (lv' := [(1, .int ((0 : Int32))), (0, .ref a0)]) rfl (by decide) (by decide +kernel) ?_
  refine q_iconst C (n := 0) (v := 0) (by decide) (by decide +kernel) ?_
  refine q_istore_n C Rm.1 (k4 := 2) (i := 2) rfl (lv' := [(2, .int ((0 : Int32))), (1, .int ((0 : Int32))), (0, .ref a0)]) rfl (by decide) (by decide +kernel) ?_
  refine q_loc [2, 1, 0] rfl ?_
  exact v_X3_start_9 C Rm K _ _ _ _ _ hm
def m_X4_init (z : Nat) (h : q_H) (a0 : Nat) : Option (Nat × q_H) :=
  let h1 := va_up h z (.inl (1, 8, .inl (fun _ => 0)))
  (q_pf h1 a0 4 4 (.ref z)).bind fun h2 =>
  let h3 := va_up h2 (z + 1) (.inl (1, 8, .inl (fun _ => 0)))
  (q_pf h3 a0 4 5 (.ref (z + 1))).bind fun h4 =>
  let h5 := va_up h4 (z + 1 + 1) (.inl (1, 8, .inl (fun _ => 0)))
  (q_pf h5 a0 4 6 (.ref (z + 1 + 1))).bind fun h6 =>
  let h7 := va_up h6 (z + 1 + 1 + 1) (.inl (1, 8, .inl (fun _ => 0)))
  (q_pf h7 a0 4 7 (.ref (z + 1 + 1 + 1))).bind fun h8 =>
  some (z + 1 + 1 + 1 + 1, h8)
set_option maxRecDepth 20000 in
set_option maxHeartbeats 1000000 in
theorem c_X4_init (l : Launch) (base : Nat) (D : va_G) (tc : Nat → ClassId) (z : Nat) (h : q_H) (a0 : Nat) {sz' : Nat} {h' : q_H} (hm : m_X4_init z h a0 = some (sz', h')) : q_M l yX4_init cX4_init 1 none 3 80 4 32 base D tc [.ref a0] z h none sz' h' := by
  refine q_startv (by decide) (Nat.le_of_ble_eq_true rfl) (fun Γ B K => ?_)
  obtain ⟨C, Rm, -, -, -, -, hin⟩ := B
  have hin : Γ.1.2.2.2.2.2.2.2.2.1.name = "<init>" := hin
  have C : q_C Γ cX4_init RX4 := C
  show q_V Γ z 0 0 h [(0, .ref a0)] [] 0
  unfold m_X4_init at hm
  refine q_aload_n C (k4 := 0) 0 rfl (by decide +kernel) ?_
  refine q_obj C Rm ml_X4_3 ob_i ob_c (by decide) (by decide +kernel) ?_
  refine q_aload_n C (k4 := 0) 0 rfl (by decide +kernel) ?_
  refine q_bipush C (n := 8) (v := 8) (by decide) (by decide +kernel) ?_
  refine q_newa C Rm (atype := .int) (t := 1) (N' := 8) (ty := .int) (n := 8) (.inl (fun _ => 0)) rfl aw_int (fun _ => rfl) (fun _ _ h => h) (fun _ => rfl) (by decide) (by decide +kernel) (Nat.le_of_ble_eq_true rfl) ⟨Nat.le_of_ble_eq_true rfl, Nat.le_of_ble_eq_true rfl⟩ (by decide +kernel) ?_
  refine q_putF C hin ff_4_9 hm rfl rfl (by decide +kernel) (fun h2 hm => ?_)
  refine q_aload_n C (k4 := 0) 0 rfl (by decide +kernel) ?_
  refine q_bipush C (n := 8) (v := 8) (by decide) (by decide +kernel) ?_
  refine q_newa C Rm (atype := .int) (t := 1) (N' := 8) (ty := .int) (n := 8) (.inl (fun _ => 0)) rfl aw_int (fun _ => rfl) (fun _ _ h => h) (fun _ => rfl) (by decide) (by decide +kernel) (Nat.le_of_ble_eq_true rfl) ⟨Nat.le_of_ble_eq_true rfl, Nat.le_of_ble_eq_true rfl⟩ (by decide +kernel) ?_
  refine q_putF C hin ff_4_15 hm rfl rfl (by decide +kernel) (fun h4 hm => ?_)
  refine q_aload_n C (k4 := 0) 0 rfl (by decide +kernel) ?_
  refine q_bipush C (n := 8) (v := 8) (by decide) (by decide +kernel) ?_
  refine q_newa C Rm (atype := .int) (t := 1) (N' := 8) (ty := .int) (n := 8) (.inl (fun _ => 0)) rfl aw_int (fun _ => rfl) (fun _ _ h => h) (fun _ => rfl) (by decide) (by decide +kernel) (Nat.le_of_ble_eq_true rfl) ⟨Nat.le_of_ble_eq_true rfl, Nat.le_of_ble_eq_true rfl⟩ (by decide +kernel) ?_
  refine q_putF C hin ff_4_18 hm rfl rfl (by decide +kernel) (fun h6 hm => ?_)
  refine q_aload_n C (k4 := 0) 0 rfl (by decide +kernel) ?_
  refine q_bipush C (n := 8) (v := 8) (by decide) (by decide +kernel) ?_
  refine q_newa C Rm (atype := .int) (t := 1) (N' := 8) (ty := .int) (n := 8) (.inl (fun _ => 0)) rfl aw_int (fun _ => rfl) (fun _ _ h => h) (fun _ => rfl) (by decide) (by decide +kernel) (Nat.le_of_ble_eq_true rfl) ⟨Nat.le_of_ble_eq_true rfl, Nat.le_of_ble_eq_true rfl⟩ (by decide +kernel) ?_
  refine q_putF C hin ff_4_21 hm rfl rfl (by decide +kernel) (fun h8 hm => ?_)
  exact q_rvA hm K ⟨Nat.le_of_ble_eq_true rfl, Nat.le_of_ble_eq_true rfl⟩ (by decide +kernel)
def m_X4_rowsWithAhead_38  (h0 : q_H) (x1 : Int32) (x2 : Int32) (s0 : Int32) : Option Int32 :=
  if s0 = 0 then
    some ((0 : Int32))
  else
    (q_ro x1).bind fun v2 =>
    (q_ro x2).bind fun v3 =>
    some ((v2 * v3))
set_option maxRecDepth 20000 in
set_option maxHeartbeats 1000000 in
theorem v_X4_rowsWithAhead_38 {Γ : q_G} {sz : Nat} {h0 : q_H} {r : Int32} (C : q_C Γ cX4_rowsWithAhead RX4) (Rm : q_Rm Γ 4 0 0 0 0)  (K : narrow .int (.int r) = .int r → q_K Γ cX4_rowsWithAhead .ireturn sz h0 0 0 [.int r])  : ∀ (x1 : Int32) (x2 : Int32) (s0 : Int32), m_X4_rowsWithAhead_38 h0 x1 x2 s0 = some r → q_V Γ sz 0 0 h0 [(1, .int x1), (2, .int x2)] [.int s0] 38 := by
  intro x1 x2 s0 hm
  unfold m_X4_rowsWithAhead_38 at hm
  refine q_istore_n C Rm.1 (k4 := 3) (i := 3) rfl (lv' := [(3, .int s0), (1, .int x1), (2, .int x2)]) rfl (by decide) (by decide +kernel) ?_
  refine q_iload_n C (k4 := 3) 0 rfl (by decide +kernel) ?_
  refine q_if_eq C (off := 17) 57 hm (by decide +kernel) (by decide) (fun _ hm => ?_) (fun _ hm => ?_)
  · refine q_iconst C (n := 0) (v := 0) (by decide) (by decide +kernel) ?_
    exact q_riP hm K rfl (by decide +kernel)
  · refine q_gsR C fs_71 (by decide +kernel) ?_
    refine q_iload_n C (k4 := 1) 1 rfl (by decide +kernel) ?_
    refine q_tiR C hm (by decide +kernel) (fun v2 hm => ?_)
    refine q_gsR C fs_71 (by decide +kernel) ?_
    refine q_iload_n C (k4 := 2) 2 rfl (by decide +kernel) ?_
    refine q_tiR C hm (by decide +kernel) (fun v3 hm => ?_)
    refine q_imul C (by decide +kernel) ?_
    refine q_goto C (off := 4) 58 (by decide +kernel) (by decide) ?_
    exact q_riP hm K rfl (by decide +kernel)
def m_X4_rowsWithAhead_37  (h0 : q_H) (x1 : Int32) (x2 : Int32) : Option Int32 :=
  m_X4_rowsWithAhead_38 h0 x1 x2 ((0 : Int32))
set_option maxRecDepth 20000 in
set_option maxHeartbeats 1000000 in
theorem v_X4_rowsWithAhead_37 {Γ : q_G} {sz : Nat} {h0 : q_H} {r : Int32} (C : q_C Γ cX4_rowsWithAhead RX4) (Rm : q_Rm Γ 4 0 0 0 0)  (K : narrow .int (.int r) = .int r → q_K Γ cX4_rowsWithAhead .ireturn sz h0 0 0 [.int r])  : ∀ (x1 : Int32) (x2 : Int32), m_X4_rowsWithAhead_37 h0 x1 x2 = some r → q_V Γ sz 0 0 h0 [(1, .int x1), (2, .int x2)] [] 37 := by
  intro x1 x2 hm
  unfold m_X4_rowsWithAhead_37 at hm
  refine q_iconst C (n := 0) (v := 0) (by decide) (by decide +kernel) ?_
  exact v_X4_rowsWithAhead_38 C Rm K _ _ _ hm
def m_X4_rowsWithAhead (h0 : q_H) (a0 : Nat) (a1 : Int32) : Option Int32 :=
  (q_gi h0 a0 4 3).bind fun v1 =>
  if a1 < 0 then
    m_X4_rowsWithAhead_37 h0 a1 (((v1 - (1 : Int32)) - a1))
  else
    if (8 : Int32) ≤ a1 then
      m_X4_rowsWithAhead_37 h0 a1 (((v1 - (1 : Int32)) - a1))
    else
      if ((v1 - (1 : Int32)) - a1) < 0 then
        m_X4_rowsWithAhead_37 h0 a1 (((v1 - (1 : Int32)) - a1))
      else
        if (8 : Int32) ≤ ((v1 - (1 : Int32)) - a1) then
          m_X4_rowsWithAhead_37 h0 a1 (((v1 - (1 : Int32)) - a1))
        else
          m_X4_rowsWithAhead_38 h0 a1 (((v1 - (1 : Int32)) - a1)) ((1 : Int32))
set_option maxRecDepth 20000 in
set_option maxHeartbeats 1000000 in
theorem c_X4_rowsWithAhead (l : Launch) (base : Nat) (D : va_G) (tc : Nat → ClassId) (sz : Nat) (h0 : q_H) (a0 : Nat) (a1 : Int32) {r : Int32} (hm : m_X4_rowsWithAhead h0 a0 a1 = some r) : q_M l yX4_rowsWithAhead cX4_rowsWithAhead 4 (some .int) 0 0 0 0 base D tc [.ref a0, .int a1] sz h0 (some (.int r)) sz h0 := by
  refine q_starti (by decide) (Nat.le_of_ble_eq_true rfl) (fun Γ B K => ?_)
  obtain ⟨C, Rm, -⟩ := B
  have C : q_C Γ cX4_rowsWithAhead RX4 := C
  show q_V Γ sz 0 0 h0 [(0, .ref a0), (1, .int a1)] [] 0
  unfold m_X4_rowsWithAhead at hm
  refine q_aload_n C (k4 := 0) 0 rfl (by decide +kernel) ?_
  refine q_geti C fl_4_34 hm (by decide +kernel) (fun v1 hm => ?_)
  refine q_iconst C (n := 1) (v := 1) (by decide) (by decide +kernel) ?_
  refine q_isub C (by decide +kernel) ?_
  refine q_iload_n C (k4 := 1) 1 rfl (by decide +kernel) ?_
  refine q_isub C (by decide +kernel) ?_
  refine q_istore_n C Rm.1 (k4 := 2) (i := 2) rfl (lv' := [(2, .int (((v1 - (1 : Int32)) - a1))), (0, .ref a0), (1, .int a1)]) rfl (by decide) (by decide +kernel) ?_
  refine q_iload_n C (k4 := 1) 2 rfl (by decide +kernel) ?_
  refine q_if_lt C (off := 27) 37 hm (by decide +kernel) (by decide) (fun _ hm => ?_) (fun _ hm => ?_)
  · refine q_loc [2, 0] rfl ?_
    exact v_X4_rowsWithAhead_37 C Rm K _ _ hm
  · refine q_iload_n C (k4 := 1) 2 rfl (by decide +kernel) ?_
    refine q_gsR C fs_71 (by decide +kernel) ?_
    refine q_lenR C (by decide +kernel) ?_
    refine q_icmp_ge C (off := 19) 37 hm (by decide +kernel) (by decide) (fun _ hm => ?_) (fun _ hm => ?_)
    · refine q_loc [2, 0] rfl ?_
      exact v_X4_rowsWithAhead_37 C Rm K _ _ hm
    · refine q_iload_n C (k4 := 2) 0 rfl (by decide +kernel) ?_
      refine q_if_lt C (off := 15) 37 hm (by decide +kernel) (by decide) (fun _ hm => ?_) (fun _ hm => ?_)
      · refine q_loc [2, 0] rfl ?_
        exact v_X4_rowsWithAhead_37 C Rm K _ _ hm
      · refine q_iload_n C (k4 := 2) 0 rfl (by decide +kernel) ?_
        refine q_gsR C fs_71 (by decide +kernel) ?_
        refine q_lenR C (by decide +kernel) ?_
        refine q_icmp_ge C (off := 7) 37 hm (by decide +kernel) (by decide) (fun _ hm => ?_) (fun _ hm => ?_)
        · refine q_loc [2, 0] rfl ?_
          exact v_X4_rowsWithAhead_37 C Rm K _ _ hm
        · refine q_iconst C (n := 1) (v := 1) (by decide) (by decide +kernel) ?_
          refine q_goto C (off := 4) 38 (by decide +kernel) (by decide) ?_
          refine q_loc [2, 0] rfl ?_
          exact v_X4_rowsWithAhead_38 C Rm K _ _ _ hm
def m_X4_tipsBy_68 (k10 : q_H → Nat → Int32 → Int32 → Int32 → Int32 → Option Int32) (h0 : q_H) (x0 : Nat) (x2 : Int32) (x3 : Int32) (x4 : Int32) (x5 : Int32) : Option Int32 :=
  k10 h0 x0 x2 x3 x4 ((x5 + (1 : Int32)))
set_option maxRecDepth 20000 in
set_option maxHeartbeats 1000000 in
theorem v_X4_tipsBy_68 {Γ : q_G} {sz : Nat} {h0 : q_H} {r : Int32} (C : q_C Γ cX4_tipsBy RX4) (Rm : q_Rm Γ 6 2 44 0 0) {k10 : q_H → Nat → Int32 → Int32 → Int32 → Int32 → Option Int32} (K : narrow .int (.int r) = .int r → q_K Γ cX4_tipsBy .ireturn sz h0 0 0 [.int r]) (hk10 : ∀ (x0 : Nat) (x2 : Int32) (x3 : Int32) (x4 : Int32) (x5 : Int32), k10 h0 x0 x2 x3 x4 x5 = some r → q_V Γ sz 0 0 h0 [(0, .ref x0), (2, .int x2), (3, .int x3), (4, .int x4), (5, .int x5)] [] 10) : ∀ (x0 : Nat) (x2 : Int32) (x3 : Int32) (x4 : Int32) (x5 : Int32), m_X4_tipsBy_68 k10 h0 x0 x2 x3 x4 x5 = some r → q_V Γ sz 0 0 h0 [(0, .ref x0), (2, .int x2), (3, .int x3), (4, .int x4), (5, .int x5)] [] 68 := by
  intro x0 x2 x3 x4 x5 hm
  unfold m_X4_tipsBy_68 at hm
  refine q_iinc C Rm.1 (i := 5) (n := 1) (v := (x5 + (1 : Int32))) 4 rfl (q_inc _ (by decide)) (lv' := [(5, .int ((x5 + (1 : Int32)))), (0, .ref x0), (2, .int x2), (3, .int x3), (4, .int x4)]) rfl (by decide) (by decide +kernel) ?_
  refine q_goto C (off := -61) 10 (by decide +kernel) (by decide) ?_
  refine q_loc [1, 2, 3, 4, 0] rfl ?_
  exact hk10 _ _ _ _ _ hm
def m_X4_tipsBy_65 (k10 : q_H → Nat → Int32 → Int32 → Int32 → Int32 → Option Int32) (h0 : q_H) (x0 : Nat) (x2 : Int32) (x3 : Int32) (x5 : Int32) (s0 : Int32) (s1 : Int32) : Option Int32 :=
  m_X4_tipsBy_68 k10 h0 x0 x2 x3 ((s1 + s0)) x5
set_option maxRecDepth 20000 in
set_option maxHeartbeats 1000000 in
theorem v_X4_tipsBy_65 {Γ : q_G} {sz : Nat} {h0 : q_H} {r : Int32} (C : q_C Γ cX4_tipsBy RX4) (Rm : q_Rm Γ 6 2 44 0 0) {k10 : q_H → Nat → Int32 → Int32 → Int32 → Int32 → Option Int32} (K : narrow .int (.int r) = .int r → q_K Γ cX4_tipsBy .ireturn sz h0 0 0 [.int r]) (hk10 : ∀ (x0 : Nat) (x2 : Int32) (x3 : Int32) (x4 : Int32) (x5 : Int32), k10 h0 x0 x2 x3 x4 x5 = some r → q_V Γ sz 0 0 h0 [(0, .ref x0), (2, .int x2), (3, .int x3), (4, .int x4), (5, .int x5)] [] 10) : ∀ (x0 : Nat) (x2 : Int32) (x3 : Int32) (x5 : Int32) (s0 : Int32) (s1 : Int32), m_X4_tipsBy_65 k10 h0 x0 x2 x3 x5 s0 s1 = some r → q_V Γ sz 0 0 h0 [(0, .ref x0), (2, .int x2), (3, .int x3), (5, .int x5)] [.int s0, .int s1] 65 := by
  intro x0 x2 x3 x5 s0 s1 hm
  unfold m_X4_tipsBy_65 at hm
  refine q_iadd C (by decide +kernel) ?_
  refine q_istore C Rm.1 (i := 4) (lv' := [(4, .int ((s1 + s0))), (0, .ref x0), (2, .int x2), (3, .int x3), (5, .int x5)]) rfl (by decide) (by decide +kernel) ?_
  refine q_loc [1, 2, 3, 0, 4] rfl ?_
  exact v_X4_tipsBy_68 C Rm K hk10 _ _ _ _ _ hm
def m_X4_tipsBy_10  : Nat → q_H → Nat → Int32 → Int32 → Int32 → Int32 → Option Int32
  | 0, _, _, _, _, _, _ => none
  | n + 1, h0, x0, x2, x3, x4, x5 =>
    (q_ca 4 h0 x0 (m_X4_everyone h0 x0)).bind fun r1 =>
    if r1 < x5 then
      some x4
    else
      if (x5 &&& x3) = 0 then
        (q_ca 4 h0 x0 (m_X4_outweighs h0 x0 x5)).bind fun r3 =>
        if r3 = 0 then
          (q_ca 4 h0 x0 (m_X4_outweighs h0 x0 ((x5 ||| x3)))).bind fun r5 =>
          if r5 = 0 then
            m_X4_tipsBy_68 (m_X4_tipsBy_10 n) h0 x0 x2 x3 x4 x5
          else
            if x2 = 0 then
              m_X4_tipsBy_65 (m_X4_tipsBy_10 n) h0 x0 x2 x3 x5 ((1 : Int32)) x4
            else
              (m_J6_bitCount_0f7a4 x5).bind fun r7 =>
              (q_ca 4 h0 x0 (m_X4_rowsWithAhead h0 x0 r7)).bind fun r9 =>
              m_X4_tipsBy_65 (m_X4_tipsBy_10 n) h0 x0 x2 x3 x5 r9 x4
        else
          m_X4_tipsBy_68 (m_X4_tipsBy_10 n) h0 x0 x2 x3 x4 x5
      else
        m_X4_tipsBy_68 (m_X4_tipsBy_10 n) h0 x0 x2 x3 x4 x5
set_option maxRecDepth 20000 in
set_option maxHeartbeats 1000000 in
theorem v_X4_tipsBy_10 {Γ : q_G} {sz : Nat} {h0 : q_H} {r : Int32} (C : q_C Γ cX4_tipsBy RX4) (Rm : q_Rm Γ 6 2 44 0 0)  (K : narrow .int (.int r) = .int r → q_K Γ cX4_tipsBy .ireturn sz h0 0 0 [.int r])  : ∀ (n : Nat) (x0 : Nat) (x2 : Int32) (x3 : Int32) (x4 : Int32) (x5 : Int32), m_X4_tipsBy_10 n h0 x0 x2 x3 x4 x5 = some r → q_V Γ sz 0 0 h0 [(0, .ref x0), (2, .int x2), (3, .int x3), (4, .int x4), (5, .int x5)] [] 10 := by
  intro n
  induction n with
  | zero => intro x0 x2 x3 x4 x5 hm; cases hm
  | succ n ih =>
    intro x0 x2 x3 x4 x5 hm
    unfold m_X4_tipsBy_10 at hm
    refine q_iload C (i := 5) 4 rfl (by decide +kernel) ?_
    refine q_aload_n C (k4 := 0) 0 rfl (by decide +kernel) ?_
    refine q_viP C Rm (As := []) (rest := [.int x5]) Y_X4_everyone Yv_X4_everyone ml_X4_43 (by decide) (by decide) hm (fun r9 e9 => c_X4_everyone _ _ _ _ _ _ _ e9) rfl rfl (Nat.le_of_ble_eq_true rfl) (by decide +kernel) (fun r1 hm z2 => ?_)
    refine q_icmp_gt C (off := 58) 74 hm (by decide +kernel) (by decide) (fun _ hm => ?_) (fun _ hm => ?_)
    · refine q_iload C (i := 4) 3 rfl (by decide +kernel) ?_
      exact q_riP hm K rfl (by decide +kernel)
    · refine q_iload C (i := 5) 4 rfl (by decide +kernel) ?_
      refine q_iload_n C (k4 := 3) 2 rfl (by decide +kernel) ?_
      refine q_iand C (by decide +kernel) ?_
      refine q_if_ne C (off := 45) 68 hm (by decide +kernel) (by decide) (fun _ hm => ?_) (fun _ hm => ?_)
      · exact v_X4_tipsBy_68 C Rm K ih _ _ _ _ _ hm
      · refine q_aload_n C (k4 := 0) 0 rfl (by decide +kernel) ?_
        refine q_iload C (i := 5) 4 rfl (by decide +kernel) ?_
        refine q_viP C Rm (As := [.int x5]) (rest := []) Y_X4_outweighs Yv_X4_outweighs ml_X4_59 (by decide) (by decide) hm (fun r9 e9 => c_X4_outweighs _ _ _ _ _ _ _ _ e9) rfl rfl (Nat.le_of_ble_eq_true rfl) (by decide +kernel) (fun r3 hm z4 => ?_)
        refine q_if_ne C (off := 36) 68 hm (by decide +kernel) (by decide) (fun _ hm => ?_) (fun _ hm => ?_)
        · exact v_X4_tipsBy_68 C Rm K ih _ _ _ _ _ hm
        · refine q_aload_n C (k4 := 0) 0 rfl (by decide +kernel) ?_
          refine q_iload C (i := 5) 4 rfl (by decide +kernel) ?_
          refine q_iload_n C (k4 := 3) 2 rfl (by decide +kernel) ?_
          refine q_ior C (by decide +kernel) ?_
          refine q_viP C Rm (As := [.int ((x5 ||| x3))]) (rest := []) Y_X4_outweighs Yv_X4_outweighs ml_X4_59 (by decide) (by decide) hm (fun r9 e9 => c_X4_outweighs _ _ _ _ _ _ _ _ e9) rfl rfl (Nat.le_of_ble_eq_true rfl) (by decide +kernel) (fun r5 hm z6 => ?_)
          refine q_if_eq C (off := 25) 68 hm (by decide +kernel) (by decide) (fun _ hm => ?_) (fun _ hm => ?_)
          · exact v_X4_tipsBy_68 C Rm K ih _ _ _ _ _ hm
          · refine q_iload C (i := 4) 3 rfl (by decide +kernel) ?_
            refine q_iload_n C (k4 := 2) 1 rfl (by decide +kernel) ?_
            refine q_if_eq C (off := 15) 64 hm (by decide +kernel) (by decide) (fun _ hm => ?_) (fun _ hm => ?_)
            · refine q_iconst C (n := 1) (v := 1) (by decide) (by decide +kernel) ?_
              refine q_loc [0, 1, 2, 4] rfl ?_
              exact v_X4_tipsBy_65 C Rm K ih _ _ _ _ _ _ hm
            · refine q_aload_n C (k4 := 0) 0 rfl (by decide +kernel) ?_
              refine q_iload C (i := 5) 4 rfl (by decide +kernel) ?_
              refine q_siP C Rm (As := [.int x5]) (rest := [.ref x0, .int x4]) Y_J6_bitCount_0f7a4 Ys_J6_bitCount_0f7a4 ml_X4_63 (by decide) (by decide) hm (fun r9 e9 => c_J6_bitCount_0f7a4 _ _ _ _ _ _ _ e9) rfl rfl (Nat.le_of_ble_eq_true rfl) (by decide +kernel) (fun r7 hm z8 => ?_)
              refine q_viP C Rm (As := [.int r7]) (rest := [.int x4]) Y_X4_rowsWithAhead Yv_X4_rowsWithAhead ml_X4_68 (by decide) (by decide) hm (fun r9 e9 => c_X4_rowsWithAhead _ _ _ _ _ _ _ _ e9) rfl rfl (Nat.le_of_ble_eq_true rfl) (by decide +kernel) (fun r9 hm z10 => ?_)
              refine q_goto C (off := 4) 65 (by decide +kernel) (by decide) ?_
              refine q_loc [0, 1, 2, 4] rfl ?_
              exact v_X4_tipsBy_65 C Rm K ih _ _ _ _ _ _ hm
def m_X4_tipsBy (h0 : q_H) (a0 : Nat) (a1 : Int32) (a2 : Int32) : Option Int32 :=
  m_X4_tipsBy_10 q_fu h0 a0 a2 (((1 : Int32) <<< (a1 &&& 31))) ((0 : Int32)) ((0 : Int32))
set_option maxRecDepth 20000 in
set_option maxHeartbeats 1000000 in
theorem c_X4_tipsBy (l : Launch) (base : Nat) (D : va_G) (tc : Nat → ClassId) (sz : Nat) (h0 : q_H) (a0 : Nat) (a1 : Int32) (a2 : Int32) {r : Int32} (hm : m_X4_tipsBy h0 a0 a1 a2 = some r) : q_M l yX4_tipsBy cX4_tipsBy 6 (some .int) 2 44 0 0 base D tc [.ref a0, .int a1, .int a2] sz h0 (some (.int r)) sz h0 := by
  refine q_starti (by decide) (Nat.le_of_ble_eq_true rfl) (fun Γ B K => ?_)
  obtain ⟨C, Rm, -⟩ := B
  have C : q_C Γ cX4_tipsBy RX4 := C
  show q_V Γ sz 0 0 h0 [(0, .ref a0), (1, .int a1), (2, .int a2)] [] 0
  unfold m_X4_tipsBy at hm
  refine q_iconst C (n := 1) (v := 1) (by decide) (by decide +kernel) ?_
  refine q_iload_n C (k4 := 1) 1 rfl (by decide +kernel) ?_
  refine q_ishl C (by decide +kernel) ?_
  refine q_istore_n C Rm.1 (k4 := 3) (i := 3) rfl (lv' := [(3, .int (((1 : Int32) <<< (a1 &&& 31)))), (0, .ref a0), (1, .int a1), (2, .int a2)]) rfl (by decide) (by decide +kernel) ?_
  refine q_iconst C (n := 0) (v := 0) (by decide) (by decide +kernel) ?_
  refine q_istore C Rm.1 (i := 4) (lv' := [(4, .int ((0 : Int32))), (3, .int (((1 : Int32) <<< (a1 &&& 31)))), (0, .ref a0), (1, .int a1), (2, .int a2)]) rfl (by decide) (by decide +kernel) ?_
  refine q_iconst C (n := 0) (v := 0) (by decide) (by decide +kernel) ?_
  refine q_istore C Rm.1 (i := 5) (lv' := [(5, .int ((0 : Int32))), (4, .int ((0 : Int32))), (3, .int (((1 : Int32) <<< (a1 &&& 31)))), (0, .ref a0), (1, .int a1), (2, .int a2)]) rfl (by decide) (by decide +kernel) ?_
  refine q_loc [3, 5, 2, 1, 0] rfl ?_
  exact v_X4_tipsBy_10 C Rm K _ _ _ _ _ _ hm
def m_X5_init (h : q_H) (a0 : Nat) (a1 : Nat) : Option q_H :=
  (q_pf h a0 5 0 (.ref a1)).bind fun h1 =>
  some h1
set_option maxRecDepth 20000 in
set_option maxHeartbeats 1000000 in
theorem c_X5_init (l : Launch) (base : Nat) (D : va_G) (tc : Nat → ClassId) (sz : Nat) (h : q_H) (a0 : Nat) (a1 : Nat) {h' : q_H} (hm : m_X5_init h a0 a1 = some h') : q_M l yX5_init cX5_init 2 none 3 80 0 0 base D tc [.ref a0, .ref a1] sz h none sz h' := by
  refine q_startv (by decide) (Nat.le_of_ble_eq_true rfl) (fun Γ B K => ?_)
  obtain ⟨C, Rm, -, -, -, -, hin⟩ := B
  have hin : Γ.1.2.2.2.2.2.2.2.2.1.name = "<init>" := hin
  have C : q_C Γ cX5_init RX5 := C
  show q_V Γ sz 0 0 h [(0, .ref a0), (1, .ref a1)] [] 0
  unfold m_X5_init at hm
  refine q_aload_n C (k4 := 0) 0 rfl (by decide +kernel) ?_
  refine q_obj C Rm ml_X5_3 ob_i ob_c (by decide) (by decide +kernel) ?_
  refine q_aload_n C (k4 := 0) 0 rfl (by decide +kernel) ?_
  refine q_aload_n C (k4 := 1) 1 rfl (by decide +kernel) ?_
  refine q_putF C hin ff_5_9 hm rfl rfl (by decide +kernel) (fun h1 hm => ?_)
  exact q_rvS hm K (by decide +kernel)
def m_X5_read_50 (k16 : q_H → Nat → Nat → Int32 → Int32 → Option (Int32 × q_H)) (h : q_H) (x0 : Nat) (x1 : Nat) (x3 : Int32) (s0 : Int32) : Option (Int32 × q_H) :=
  k16 h x0 x1 s0 ((x3 + (1 : Int32)))
set_option maxRecDepth 20000 in
set_option maxHeartbeats 1000000 in
theorem v_X5_read_50 {Γ : q_G} {sz : Nat} {r : Int32} {h' : q_H} (C : q_C Γ cX5_read RX5) (Rm : q_Rm Γ 4 7 161 0 0) {k16 : q_H → Nat → Nat → Int32 → Int32 → Option (Int32 × q_H)} (K : narrow .int (.int r) = .int r → q_K Γ cX5_read .ireturn sz h' 0 0 [.int r]) (hk16 : ∀ (h : q_H) (x0 : Nat) (x1 : Nat) (x2 : Int32) (x3 : Int32), k16 h x0 x1 x2 x3 = some (r, h') → q_V Γ sz 0 0 h [(0, .ref x0), (1, .ref x1), (2, .int x2), (3, .int x3)] [] 16) : ∀ (h : q_H) (x0 : Nat) (x1 : Nat) (x3 : Int32) (s0 : Int32), m_X5_read_50 k16 h x0 x1 x3 s0 = some (r, h') → q_V Γ sz 0 0 h [(0, .ref x0), (1, .ref x1), (3, .int x3)] [.int s0] 50 := by
  intro h x0 x1 x3 s0 hm
  unfold m_X5_read_50 at hm
  refine q_istore_n C Rm.1 (k4 := 2) (i := 2) rfl (lv' := [(2, .int s0), (0, .ref x0), (1, .ref x1), (3, .int x3)]) rfl (by decide) (by decide +kernel) ?_
  refine q_iinc C Rm.1 (i := 3) (n := 1) (v := (x3 + (1 : Int32))) 3 rfl (q_inc _ (by decide)) (lv' := [(3, .int ((x3 + (1 : Int32)))), (2, .int s0), (0, .ref x0), (1, .ref x1)]) rfl (by decide) (by decide +kernel) ?_
  refine q_goto C (off := -38) 16 (by decide +kernel) (by decide) ?_
  refine q_loc [2, 3, 1, 0] rfl ?_
  exact hk16 _ _ _ _ _ hm
def m_X5_read_49 (k16 : q_H → Nat → Nat → Int32 → Int32 → Option (Int32 × q_H)) (h : q_H) (x0 : Nat) (x1 : Nat) (x3 : Int32) : Option (Int32 × q_H) :=
  m_X5_read_50 k16 h x0 x1 x3 ((0 : Int32))
set_option maxRecDepth 20000 in
set_option maxHeartbeats 1000000 in
theorem v_X5_read_49 {Γ : q_G} {sz : Nat} {r : Int32} {h' : q_H} (C : q_C Γ cX5_read RX5) (Rm : q_Rm Γ 4 7 161 0 0) {k16 : q_H → Nat → Nat → Int32 → Int32 → Option (Int32 × q_H)} (K : narrow .int (.int r) = .int r → q_K Γ cX5_read .ireturn sz h' 0 0 [.int r]) (hk16 : ∀ (h : q_H) (x0 : Nat) (x1 : Nat) (x2 : Int32) (x3 : Int32), k16 h x0 x1 x2 x3 = some (r, h') → q_V Γ sz 0 0 h [(0, .ref x0), (1, .ref x1), (2, .int x2), (3, .int x3)] [] 16) : ∀ (h : q_H) (x0 : Nat) (x1 : Nat) (x3 : Int32), m_X5_read_49 k16 h x0 x1 x3 = some (r, h') → q_V Γ sz 0 0 h [(0, .ref x0), (1, .ref x1), (3, .int x3)] [] 49 := by
  intro h x0 x1 x3 hm
  unfold m_X5_read_49 at hm
  refine q_iconst C (n := 0) (v := 0) (by decide) (by decide +kernel) ?_
  exact v_X5_read_50 C Rm K hk16 _ _ _ _ _ hm
def m_X5_read_57  (h : q_H) (x0 : Nat) : Option (Int32 × q_H) :=
  (q_gn h x0 5 0).bind fun v12 =>
  (q_gi h v12 3 8).bind fun v13 =>
  some (v13, h)
set_option maxRecDepth 20000 in
set_option maxHeartbeats 1000000 in
theorem v_X5_read_57 {Γ : q_G} {sz : Nat} {r : Int32} {h' : q_H} (C : q_C Γ cX5_read RX5) (Rm : q_Rm Γ 4 7 161 0 0)  (K : narrow .int (.int r) = .int r → q_K Γ cX5_read .ireturn sz h' 0 0 [.int r])  : ∀ (h : q_H) (x0 : Nat), m_X5_read_57 h x0 = some (r, h') → q_V Γ sz 0 0 h [(0, .ref x0)] [] 57 := by
  intro h x0 hm
  unfold m_X5_read_57 at hm
  refine q_aload_n C (k4 := 0) 0 rfl (by decide +kernel) ?_
  refine q_getn C fl_5_9 hm (by decide +kernel) (fun v12 hm => ?_)
  refine q_geti C fl_5_32 hm (by decide +kernel) (fun v13 hm => ?_)
  exact q_riS hm K rfl (by decide +kernel)
def m_X5_read_16  : Nat → q_H → Nat → Nat → Int32 → Int32 → Option (Int32 × q_H)
  | 0, _, _, _, _, _ => none
  | n + 1, h, x0, x1, x2, x3 =>
    if x2 = 0 then
      m_X5_read_57 h x0
    else
      if (40 : Int32) < x3 then
        m_X5_read_57 h x0
      else
        (q_ca 5 h x0 (m_X5_readClause h x0 x3 x1)).bind fun (r5, h6) =>
        if r5 = 0 then
          m_X5_read_49 (m_X5_read_16 n) h6 x0 x1 x3
        else
          (q_gn h6 x0 5 0).bind fun v8 =>
          (q_ca 3 h6 v8 (m_X3_goesOn h6 v8)).bind fun (r9, h10) =>
          if r9 = 0 then
            m_X5_read_49 (m_X5_read_16 n) h10 x0 x1 x3
          else
            m_X5_read_50 (m_X5_read_16 n) h10 x0 x1 x3 ((1 : Int32))
set_option maxRecDepth 20000 in
set_option maxHeartbeats 1000000 in
theorem v_X5_read_16 {Γ : q_G} {sz : Nat} {r : Int32} {h' : q_H} (C : q_C Γ cX5_read RX5) (Rm : q_Rm Γ 4 7 161 0 0)  (K : narrow .int (.int r) = .int r → q_K Γ cX5_read .ireturn sz h' 0 0 [.int r])  : ∀ (n : Nat) (h : q_H) (x0 : Nat) (x1 : Nat) (x2 : Int32) (x3 : Int32), m_X5_read_16 n h x0 x1 x2 x3 = some (r, h') → q_V Γ sz 0 0 h [(0, .ref x0), (1, .ref x1), (2, .int x2), (3, .int x3)] [] 16 := by
  intro n
  induction n with
  | zero => intro h x0 x1 x2 x3 hm; cases hm
  | succ n ih =>
    intro h x0 x1 x2 x3 hm
    unfold m_X5_read_16 at hm
    refine q_iload_n C (k4 := 2) 2 rfl (by decide +kernel) ?_
    refine q_if_eq C (off := 40) 57 hm (by decide +kernel) (by decide) (fun _ hm => ?_) (fun _ hm => ?_)
    · refine q_loc [0] rfl ?_
      exact v_X5_read_57 C Rm K _ _ hm
    · refine q_iload_n C (k4 := 3) 3 rfl (by decide +kernel) ?_
      refine q_bipush C (n := 40) (v := 40) (by decide) (by decide +kernel) ?_
      refine q_icmp_gt C (off := 34) 57 hm (by decide +kernel) (by decide) (fun _ hm => ?_) (fun _ hm => ?_)
      · refine q_loc [0] rfl ?_
        exact v_X5_read_57 C Rm K _ _ hm
      · refine q_aload_n C (k4 := 0) 0 rfl (by decide +kernel) ?_
        refine q_iload_n C (k4 := 3) 3 rfl (by decide +kernel) ?_
        refine q_aload_n C (k4 := 1) 1 rfl (by decide +kernel) ?_
        refine q_viS C Rm (As := [.int x3, .ref x1]) (rest := []) Y_X5_readClause Yv_X5_readClause ml_X5_24 (by decide) (by decide) hm (fun r5 h6 e9 => c_X5_readClause _ _ _ _ _ _ _ _ _ e9) rfl rfl (Nat.le_of_ble_eq_true rfl) (by decide +kernel) (fun r5 h6 hm z7 => ?_)
        refine q_if_eq C (off := 17) 49 hm (by decide +kernel) (by decide) (fun _ hm => ?_) (fun _ hm => ?_)
        · refine q_loc [0, 1, 3] rfl ?_
          exact v_X5_read_49 C Rm K ih _ _ _ _ hm
        · refine q_aload_n C (k4 := 0) 0 rfl (by decide +kernel) ?_
          refine q_getn C fl_5_9 hm (by decide +kernel) (fun v8 hm => ?_)
          refine q_viS C Rm (As := []) (rest := []) Y_X3_goesOn Yv_X3_goesOn ml_X5_28 (by decide) (by decide) hm (fun r9 h10 e9 => c_X3_goesOn _ _ _ _ _ _ _ e9) rfl rfl (Nat.le_of_ble_eq_true rfl) (by decide +kernel) (fun r9 h10 hm z11 => ?_)
          refine q_if_eq C (off := 7) 49 hm (by decide +kernel) (by decide) (fun _ hm => ?_) (fun _ hm => ?_)
          · refine q_loc [0, 1, 3] rfl ?_
            exact v_X5_read_49 C Rm K ih _ _ _ _ hm
          · refine q_iconst C (n := 1) (v := 1) (by decide) (by decide +kernel) ?_
            refine q_goto C (off := 4) 50 (by decide +kernel) (by decide) ?_
            refine q_loc [0, 1, 3] rfl ?_
            exact v_X5_read_50 C Rm K ih _ _ _ _ _ hm
def m_X5_read (h : q_H) (a0 : Nat) (a1 : Nat) : Option (Int32 × q_H) :=
  (q_pf h a0 5 1 (.int ((0 : Int32)))).bind fun h1 =>
  (q_gn h1 a0 5 0).bind fun v2 =>
  (q_ca 3 h1 v2 (m_X3_start h1 v2)).bind fun h4 =>
  m_X5_read_16 q_fu h4 a0 a1 ((1 : Int32)) ((0 : Int32))
set_option maxRecDepth 20000 in
set_option maxHeartbeats 1000000 in
theorem c_X5_read (l : Launch) (base : Nat) (D : va_G) (tc : Nat → ClassId) (sz : Nat) (h : q_H) (a0 : Nat) (a1 : Nat) {r : Int32} {h' : q_H} (hm : m_X5_read h a0 a1 = some (r, h')) : q_M l yX5_read cX5_read 4 (some .int) 7 161 0 0 base D tc [.ref a0, .ref a1] sz h (some (.int r)) sz h' := by
  refine q_starti (by decide) (Nat.le_of_ble_eq_true rfl) (fun Γ B K => ?_)
  obtain ⟨C, Rm, -⟩ := B
  have C : q_C Γ cX5_read RX5 := C
  show q_V Γ sz 0 0 h [(0, .ref a0), (1, .ref a1)] [] 0
  unfold m_X5_read at hm
  refine q_aload_n C (k4 := 0) 0 rfl (by decide +kernel) ?_
  refine q_iconst C (n := 0) (v := 0) (by decide) (by decide +kernel) ?_
  refine q_putf C fl_5_15 hm q_z0 (by decide) (by decide +kernel) (fun h1 hm => ?_)
  refine q_aload_n C (k4 := 0) 0 rfl (by decide +kernel) ?_
  refine q_getn C fl_5_9 hm (by decide +kernel) (fun v2 hm => ?_)
  refine q_vvS C Rm (As := []) (rest := []) Y_X3_start Yv_X3_start ml_X5_19 (by decide) (by decide) hm (fun h4 e9 => c_X3_start _ _ _ _ _ _ _ e9) rfl rfl (Nat.le_of_ble_eq_true rfl) (by decide +kernel) (fun h4 hm => ?_)
  refine q_iconst C (n := 1) (v := 1) (by decide) (by decide +kernel) ?_
  refine q_istore_n C Rm.1 (k4 := 2) (i := 2) rfl (lv' := [(2, .int ((1 : Int32))), (0, .ref a0), (1, .ref a1)]) rfl (by decide) (by decide +kernel) ?_
  refine q_iconst C (n := 0) (v := 0) (by decide) (by decide +kernel) ?_
  refine q_istore_n C Rm.1 (k4 := 3) (i := 3) rfl (lv' := [(3, .int ((0 : Int32))), (2, .int ((1 : Int32))), (0, .ref a0), (1, .ref a1)]) rfl (by decide) (by decide +kernel) ?_
  refine q_loc [2, 3, 1, 0] rfl ?_
  exact v_X5_read_16 C Rm K _ _ _ _ _ _ hm
def m_X6_init (h : q_H) (a0 : Nat) (a1 : Nat) (a2 : Nat) : Option q_H :=
  (q_pf h a0 6 0 (.ref a1)).bind fun h1 =>
  (q_pf h1 a0 6 1 (.ref a2)).bind fun h2 =>
  some h2
set_option maxRecDepth 20000 in
set_option maxHeartbeats 1000000 in
theorem c_X6_init (l : Launch) (base : Nat) (D : va_G) (tc : Nat → ClassId) (sz : Nat) (h : q_H) (a0 : Nat) (a1 : Nat) (a2 : Nat) {h' : q_H} (hm : m_X6_init h a0 a1 a2 = some h') : q_M l yX6_init cX6_init 3 none 3 80 0 0 base D tc [.ref a0, .ref a1, .ref a2] sz h none sz h' := by
  refine q_startv (by decide) (Nat.le_of_ble_eq_true rfl) (fun Γ B K => ?_)
  obtain ⟨C, Rm, -, -, -, -, hin⟩ := B
  have hin : Γ.1.2.2.2.2.2.2.2.2.1.name = "<init>" := hin
  have C : q_C Γ cX6_init RX6 := C
  show q_V Γ sz 0 0 h [(0, .ref a0), (1, .ref a1), (2, .ref a2)] [] 0
  unfold m_X6_init at hm
  refine q_aload_n C (k4 := 0) 0 rfl (by decide +kernel) ?_
  refine q_obj C Rm ml_X6_1 ob_i ob_c (by decide) (by decide +kernel) ?_
  refine q_aload_n C (k4 := 0) 0 rfl (by decide +kernel) ?_
  refine q_aload_n C (k4 := 1) 1 rfl (by decide +kernel) ?_
  refine q_putF C hin ff_6_7 hm rfl rfl (by decide +kernel) (fun h1 hm => ?_)
  refine q_aload_n C (k4 := 0) 0 rfl (by decide +kernel) ?_
  refine q_aload_n C (k4 := 2) 2 rfl (by decide +kernel) ?_
  refine q_putF C hin ff_6_13 hm rfl rfl (by decide +kernel) (fun h2 hm => ?_)
  exact q_rvS hm K (by decide +kernel)
def m_X7_init (z : Nat) (h : q_H) (a0 : Nat) (a1 : Nat) : Option (Nat × q_H) :=
  (q_pf h a0 7 0 (.ref a1)).bind fun h1 =>
  let h2 := va_up h1 z (.inl (1, 400, .inl (fun _ => 0)))
  (q_pf h2 a0 7 1 (.ref z)).bind fun h3 =>
  let h4 := va_up h3 (z + 1) (.inl (1, 25, .inl (fun _ => 0)))
  (q_pf h4 a0 7 3 (.ref (z + 1))).bind fun h5 =>
  let h6 := va_up h5 (z + 1 + 1) (.inl (1, 40, .inl (fun _ => 0)))
  (q_pf h6 a0 7 5 (.ref (z + 1 + 1))).bind fun h7 =>
  some (z + 1 + 1 + 1, h7)
set_option maxRecDepth 20000 in
set_option maxHeartbeats 1000000 in
theorem c_X7_init (l : Launch) (base : Nat) (D : va_G) (tc : Nat → ClassId) (z : Nat) (h : q_H) (a0 : Nat) (a1 : Nat) {sz' : Nat} {h' : q_H} (hm : m_X7_init z h a0 a1 = some (sz', h')) : q_M l yX7_init cX7_init 2 none 3 80 3 465 base D tc [.ref a0, .ref a1] z h none sz' h' := by
  refine q_startv (by decide) (Nat.le_of_ble_eq_true rfl) (fun Γ B K => ?_)
  obtain ⟨C, Rm, -, -, -, -, hin⟩ := B
  have hin : Γ.1.2.2.2.2.2.2.2.2.1.name = "<init>" := hin
  have C : q_C Γ cX7_init RX7 := C
  show q_V Γ z 0 0 h [(0, .ref a0), (1, .ref a1)] [] 0
  unfold m_X7_init at hm
  refine q_aload_n C (k4 := 0) 0 rfl (by decide +kernel) ?_
  refine q_obj C Rm ml_X7_3 ob_i ob_c (by decide) (by decide +kernel) ?_
  refine q_aload_n C (k4 := 0) 0 rfl (by decide +kernel) ?_
  refine q_aload_n C (k4 := 1) 1 rfl (by decide +kernel) ?_
  refine q_putF C hin ff_7_9 hm rfl rfl (by decide +kernel) (fun h1 hm => ?_)
  refine q_aload_n C (k4 := 0) 0 rfl (by decide +kernel) ?_
  refine q_sipush C (n := 400) (v := 400) (by decide) (by decide +kernel) ?_
  refine q_newa C Rm (atype := .int) (t := 1) (N' := 400) (ty := .int) (n := 400) (.inl (fun _ => 0)) rfl aw_int (fun _ => rfl) (fun _ _ h => h) (fun _ => rfl) (by decide) (by decide +kernel) (Nat.le_of_ble_eq_true rfl) ⟨Nat.le_of_ble_eq_true rfl, Nat.le_of_ble_eq_true rfl⟩ (by decide +kernel) ?_
  refine q_putF C hin ff_7_17 hm rfl rfl (by decide +kernel) (fun h3 hm => ?_)
  refine q_aload_n C (k4 := 0) 0 rfl (by decide +kernel) ?_
  refine q_bipush C (n := 25) (v := 25) (by decide) (by decide +kernel) ?_
  refine q_newa C Rm (atype := .int) (t := 1) (N' := 25) (ty := .int) (n := 25) (.inl (fun _ => 0)) rfl aw_int (fun _ => rfl) (fun _ _ h => h) (fun _ => rfl) (by decide) (by decide +kernel) (Nat.le_of_ble_eq_true rfl) ⟨Nat.le_of_ble_eq_true rfl, Nat.le_of_ble_eq_true rfl⟩ (by decide +kernel) ?_
  refine q_putF C hin ff_7_21 hm rfl rfl (by decide +kernel) (fun h5 hm => ?_)
  refine q_aload_n C (k4 := 0) 0 rfl (by decide +kernel) ?_
  refine q_bipush C (n := 40) (v := 40) (by decide) (by decide +kernel) ?_
  refine q_newa C Rm (atype := .int) (t := 1) (N' := 40) (ty := .int) (n := 40) (.inl (fun _ => 0)) rfl aw_int (fun _ => rfl) (fun _ _ h => h) (fun _ => rfl) (by decide) (by decide +kernel) (Nat.le_of_ble_eq_true rfl) ⟨Nat.le_of_ble_eq_true rfl, Nat.le_of_ble_eq_true rfl⟩ (by decide +kernel) ?_
  refine q_putF C hin ff_7_24 hm rfl rfl (by decide +kernel) (fun h7 hm => ?_)
  exact q_rvA hm K ⟨Nat.le_of_ble_eq_true rfl, Nat.le_of_ble_eq_true rfl⟩ (by decide +kernel)
def m_X7_read_59 (k26 : q_H → Nat → Int32 → Int32 → Option (Int32 × q_H)) (h : q_H) (x0 : Nat) (x2 : Int32) (s0 : Int32) : Option (Int32 × q_H) :=
  k26 h x0 s0 ((x2 + (1 : Int32)))
set_option maxRecDepth 20000 in
set_option maxHeartbeats 1000000 in
theorem v_X7_read_59 {Γ : q_G} {sz : Nat} {r : Int32} {h' : q_H} (C : q_C Γ cX7_read RX7) (Rm : q_Rm Γ 3 7 161 0 0) {k26 : q_H → Nat → Int32 → Int32 → Option (Int32 × q_H)} (K : narrow .int (.int r) = .int r → q_K Γ cX7_read .ireturn sz h' 0 0 [.int r]) (hk26 : ∀ (h : q_H) (x0 : Nat) (x1 : Int32) (x2 : Int32), k26 h x0 x1 x2 = some (r, h') → q_V Γ sz 0 0 h [(0, .ref x0), (1, .int x1), (2, .int x2)] [] 26) : ∀ (h : q_H) (x0 : Nat) (x2 : Int32) (s0 : Int32), m_X7_read_59 k26 h x0 x2 s0 = some (r, h') → q_V Γ sz 0 0 h [(0, .ref x0), (2, .int x2)] [.int s0] 59 := by
  intro h x0 x2 s0 hm
  unfold m_X7_read_59 at hm
  refine q_istore_n C Rm.1 (k4 := 1) (i := 1) rfl (lv' := [(1, .int s0), (0, .ref x0), (2, .int x2)]) rfl (by decide) (by decide +kernel) ?_
  refine q_iinc C Rm.1 (i := 2) (n := 1) (v := (x2 + (1 : Int32))) 2 rfl (q_inc _ (by decide)) (lv' := [(2, .int ((x2 + (1 : Int32)))), (1, .int s0), (0, .ref x0)]) rfl (by decide) (by decide +kernel) ?_
  refine q_goto C (off := -37) 26 (by decide +kernel) (by decide) ?_
  refine q_loc [2, 1, 0] rfl ?_
  exact hk26 _ _ _ _ hm
def m_X7_read_58 (k26 : q_H → Nat → Int32 → Int32 → Option (Int32 × q_H)) (h : q_H) (x0 : Nat) (x2 : Int32) : Option (Int32 × q_H) :=
  m_X7_read_59 k26 h x0 x2 ((0 : Int32))
set_option maxRecDepth 20000 in
set_option maxHeartbeats 1000000 in
theorem v_X7_read_58 {Γ : q_G} {sz : Nat} {r : Int32} {h' : q_H} (C : q_C Γ cX7_read RX7) (Rm : q_Rm Γ 3 7 161 0 0) {k26 : q_H → Nat → Int32 → Int32 → Option (Int32 × q_H)} (K : narrow .int (.int r) = .int r → q_K Γ cX7_read .ireturn sz h' 0 0 [.int r]) (hk26 : ∀ (h : q_H) (x0 : Nat) (x1 : Int32) (x2 : Int32), k26 h x0 x1 x2 = some (r, h') → q_V Γ sz 0 0 h [(0, .ref x0), (1, .int x1), (2, .int x2)] [] 26) : ∀ (h : q_H) (x0 : Nat) (x2 : Int32), m_X7_read_58 k26 h x0 x2 = some (r, h') → q_V Γ sz 0 0 h [(0, .ref x0), (2, .int x2)] [] 58 := by
  intro h x0 x2 hm
  unfold m_X7_read_58 at hm
  refine q_iconst C (n := 0) (v := 0) (by decide) (by decide +kernel) ?_
  exact v_X7_read_59 C Rm K hk26 _ _ _ _ hm
def m_X7_read_66  (h : q_H) (x0 : Nat) : Option (Int32 × q_H) :=
  (q_ca 7 h x0 (m_X7_mark h x0)).bind fun h15 =>
  (q_gn h15 x0 7 0).bind fun v16 =>
  (q_gi h15 v16 3 8).bind fun v17 =>
  some (v17, h15)
set_option maxRecDepth 20000 in
set_option maxHeartbeats 1000000 in
theorem v_X7_read_66 {Γ : q_G} {sz : Nat} {r : Int32} {h' : q_H} (C : q_C Γ cX7_read RX7) (Rm : q_Rm Γ 3 7 161 0 0)  (K : narrow .int (.int r) = .int r → q_K Γ cX7_read .ireturn sz h' 0 0 [.int r])  : ∀ (h : q_H) (x0 : Nat), m_X7_read_66 h x0 = some (r, h') → q_V Γ sz 0 0 h [(0, .ref x0)] [] 66 := by
  intro h x0 hm
  unfold m_X7_read_66 at hm
  refine q_aload_n C (k4 := 0) 0 rfl (by decide +kernel) ?_
  refine q_vvS C Rm (As := []) (rest := []) Y_X7_mark Yv_X7_mark ml_X7_50 (by decide) (by decide) hm (fun h15 e9 => c_X7_mark _ _ _ _ _ _ _ e9) rfl rfl (Nat.le_of_ble_eq_true rfl) (by decide +kernel) (fun h15 hm => ?_)
  refine q_aload_n C (k4 := 0) 0 rfl (by decide +kernel) ?_
  refine q_getn C fl_7_9 hm (by decide +kernel) (fun v16 hm => ?_)
  refine q_geti C fl_7_53 hm (by decide +kernel) (fun v17 hm => ?_)
  exact q_riS hm K rfl (by decide +kernel)
def m_X7_read_26  : Nat → q_H → Nat → Int32 → Int32 → Option (Int32 × q_H)
  | 0, _, _, _, _ => none
  | n + 1, h, x0, x1, x2 =>
    if x1 = 0 then
      m_X7_read_66 h x0
    else
      if (12 : Int32) < x2 then
        m_X7_read_66 h x0
      else
        (q_ca 7 h x0 (m_X7_readClause h x0 x2)).bind fun (r7, h8) =>
        if r7 = 0 then
          m_X7_read_58 (m_X7_read_26 n) h8 x0 x2
        else
          (q_gn h8 x0 7 0).bind fun v10 =>
          (q_ca 3 h8 v10 (m_X3_goesOn h8 v10)).bind fun (r11, h12) =>
          if r11 = 0 then
            m_X7_read_58 (m_X7_read_26 n) h12 x0 x2
          else
            m_X7_read_59 (m_X7_read_26 n) h12 x0 x2 ((1 : Int32))
set_option maxRecDepth 20000 in
set_option maxHeartbeats 1000000 in
theorem v_X7_read_26 {Γ : q_G} {sz : Nat} {r : Int32} {h' : q_H} (C : q_C Γ cX7_read RX7) (Rm : q_Rm Γ 3 7 161 0 0)  (K : narrow .int (.int r) = .int r → q_K Γ cX7_read .ireturn sz h' 0 0 [.int r])  : ∀ (n : Nat) (h : q_H) (x0 : Nat) (x1 : Int32) (x2 : Int32), m_X7_read_26 n h x0 x1 x2 = some (r, h') → q_V Γ sz 0 0 h [(0, .ref x0), (1, .int x1), (2, .int x2)] [] 26 := by
  intro n
  induction n with
  | zero => intro h x0 x1 x2 hm; cases hm
  | succ n ih =>
    intro h x0 x1 x2 hm
    unfold m_X7_read_26 at hm
    refine q_iload_n C (k4 := 1) 1 rfl (by decide +kernel) ?_
    refine q_if_eq C (off := 39) 66 hm (by decide +kernel) (by decide) (fun _ hm => ?_) (fun _ hm => ?_)
    · refine q_loc [0] rfl ?_
      exact v_X7_read_66 C Rm K _ _ hm
    · refine q_iload_n C (k4 := 2) 2 rfl (by decide +kernel) ?_
      refine q_bipush C (n := 12) (v := 12) (by decide) (by decide +kernel) ?_
      refine q_icmp_gt C (off := 33) 66 hm (by decide +kernel) (by decide) (fun _ hm => ?_) (fun _ hm => ?_)
      · refine q_loc [0] rfl ?_
        exact v_X7_read_66 C Rm K _ _ hm
      · refine q_aload_n C (k4 := 0) 0 rfl (by decide +kernel) ?_
        refine q_iload_n C (k4 := 2) 2 rfl (by decide +kernel) ?_
        refine q_viS C Rm (As := [.int x2]) (rest := []) Y_X7_readClause Yv_X7_readClause ml_X7_42 (by decide) (by decide) hm (fun r7 h8 e9 => c_X7_readClause _ _ _ _ _ _ _ _ e9) rfl rfl (Nat.le_of_ble_eq_true rfl) (by decide +kernel) (fun r7 h8 hm z9 => ?_)
        refine q_if_eq C (off := 17) 58 hm (by decide +kernel) (by decide) (fun _ hm => ?_) (fun _ hm => ?_)
        · refine q_loc [0, 2] rfl ?_
          exact v_X7_read_58 C Rm K ih _ _ _ hm
        · refine q_aload_n C (k4 := 0) 0 rfl (by decide +kernel) ?_
          refine q_getn C fl_7_9 hm (by decide +kernel) (fun v10 hm => ?_)
          refine q_viS C Rm (As := []) (rest := []) Y_X3_goesOn Yv_X3_goesOn ml_X7_46 (by decide) (by decide) hm (fun r11 h12 e9 => c_X3_goesOn _ _ _ _ _ _ _ e9) rfl rfl (Nat.le_of_ble_eq_true rfl) (by decide +kernel) (fun r11 h12 hm z13 => ?_)
          refine q_if_eq C (off := 7) 58 hm (by decide +kernel) (by decide) (fun _ hm => ?_) (fun _ hm => ?_)
          · refine q_loc [0, 2] rfl ?_
            exact v_X7_read_58 C Rm K ih _ _ _ hm
          · refine q_iconst C (n := 1) (v := 1) (by decide) (by decide +kernel) ?_
            refine q_goto C (off := 4) 59 (by decide +kernel) (by decide) ?_
            refine q_loc [0, 2] rfl ?_
            exact v_X7_read_59 C Rm K ih _ _ _ _ hm
def m_X7_read (h : q_H) (a0 : Nat) : Option (Int32 × q_H) :=
  (q_pf h a0 7 2 (.int ((0 : Int32)))).bind fun h1 =>
  (q_pf h1 a0 7 4 (.int ((0 : Int32)))).bind fun h2 =>
  (q_pf h2 a0 7 8 (.int ((0 : Int32)))).bind fun h3 =>
  (q_gn h3 a0 7 0).bind fun v4 =>
  (q_ca 3 h3 v4 (m_X3_start h3 v4)).bind fun h6 =>
  m_X7_read_26 q_fu h6 a0 ((1 : Int32)) ((0 : Int32))
set_option maxRecDepth 20000 in
set_option maxHeartbeats 1000000 in
theorem c_X7_read (l : Launch) (base : Nat) (D : va_G) (tc : Nat → ClassId) (sz : Nat) (h : q_H) (a0 : Nat) {r : Int32} {h' : q_H} (hm : m_X7_read h a0 = some (r, h')) : q_M l yX7_read cX7_read 3 (some .int) 7 161 0 0 base D tc [.ref a0] sz h (some (.int r)) sz h' := by
  refine q_starti (by decide) (Nat.le_of_ble_eq_true rfl) (fun Γ B K => ?_)
  obtain ⟨C, Rm, -⟩ := B
  have C : q_C Γ cX7_read RX7 := C
  show q_V Γ sz 0 0 h [(0, .ref a0)] [] 0
  unfold m_X7_read at hm
  refine q_aload_n C (k4 := 0) 0 rfl (by decide +kernel) ?_
  refine q_iconst C (n := 0) (v := 0) (by decide) (by decide +kernel) ?_
  refine q_putf C fl_7_27 hm rfl rfl (by decide +kernel) (fun h1 hm => ?_)
  refine q_aload_n C (k4 := 0) 0 rfl (by decide +kernel) ?_
  refine q_iconst C (n := 0) (v := 0) (by decide) (by decide +kernel) ?_
  refine q_putf C fl_7_31 hm rfl rfl (by decide +kernel) (fun h2 hm => ?_)
  refine q_aload_n C (k4 := 0) 0 rfl (by decide +kernel) ?_
  refine q_iconst C (n := 0) (v := 0) (by decide) (by decide +kernel) ?_
  refine q_putf C fl_7_34 hm rfl rfl (by decide +kernel) (fun h3 hm => ?_)
  refine q_aload_n C (k4 := 0) 0 rfl (by decide +kernel) ?_
  refine q_getn C fl_7_9 hm (by decide +kernel) (fun v4 hm => ?_)
  refine q_vvS C Rm (As := []) (rest := []) Y_X3_start Yv_X3_start ml_X7_37 (by decide) (by decide) hm (fun h6 e9 => c_X3_start _ _ _ _ _ _ _ e9) rfl rfl (Nat.le_of_ble_eq_true rfl) (by decide +kernel) (fun h6 hm => ?_)
  refine q_iconst C (n := 1) (v := 1) (by decide) (by decide +kernel) ?_
  refine q_istore_n C Rm.1 (k4 := 1) (i := 1) rfl (lv' := [(1, .int ((1 : Int32))), (0, .ref a0)]) rfl (by decide) (by decide +kernel) ?_
  refine q_iconst C (n := 0) (v := 0) (by decide) (by decide +kernel) ?_
  refine q_istore_n C Rm.1 (k4 := 2) (i := 2) rfl (lv' := [(2, .int ((0 : Int32))), (1, .int ((1 : Int32))), (0, .ref a0)]) rfl (by decide) (by decide +kernel) ?_
  refine q_loc [2, 1, 0] rfl ?_
  exact v_X7_read_26 C Rm K _ _ _ _ _ hm
def m_J7_copyOf_59c91 (z : Nat) (h : q_H) (a0 : Nat) (a1 : Int32) : Option (Nat × Nat × q_H) :=
  (q_ln h a0).bind fun v1 =>
  if a1 = v1 then
    (q_cln h a0 1000).bind fun (n6, g7) =>
    let h8 := va_up h z (.inl (1, n6, .inl g7))
    some (z, z + 1, h8)
  else
    if a1 < 0 ∨ 1000 < a1.toNatClampNeg then none else
    let h2 := va_up h z (.inl (1, a1.toNatClampNeg, .inl (fun _ => 0)))
    (q_ln h2 a0).bind fun v4 =>
    (q_cp h2 a0 ((0 : Int32)) z ((0 : Int32)) ((if a1 < v4 then a1 else v4))).bind fun h5 =>
    some (z, z + 1, h5)
set_option maxRecDepth 20000 in
set_option maxHeartbeats 1000000 in
theorem c_J7_copyOf_59c91 (l : Launch) (base : Nat) (D : va_G) (tc : Nat → ClassId) (z : Nat) (h : q_H) (a0 : Nat) (a1 : Int32) {r : Nat} {sz' : Nat} {h' : q_H} (hm : m_J7_copyOf_59c91 z h a0 a1 = some (r, sz', h')) : q_M l yJ7_copyOf_59c91 cJ7_copyOf_59c91 3 (some (.array .int)) 3 80 1 1000 base D tc [.ref a0, .int a1] z h (some (.ref r)) sz' h' := by
  refine q_starta (r := some r) (Or.inr ⟨_, rfl⟩) (by decide) (Nat.le_of_ble_eq_true rfl) (fun Γ B K => ?_)
  obtain ⟨C, Rm, -⟩ := B
  have C : q_C Γ cJ7_copyOf_59c91 RJ7 := C
  show q_V Γ z 0 0 h [(0, .ref a0), (1, .int a1)] [] 0
  unfold m_J7_copyOf_59c91 at hm
  refine q_iload_n C (k4 := 1) 1 rfl (by decide +kernel) ?_
  refine q_aload_n C (k4 := 0) 0 rfl (by decide +kernel) ?_
  refine q_len C hm (by decide +kernel) (fun v1 hm => ?_)
  refine q_icmp_ne C (off := 11) 14 hm (by decide +kernel) (by decide) (fun _ hm => ?_) (fun _ hm => ?_)
  · refine q_iload_n C (k4 := 1) 1 rfl (by decide +kernel) ?_
    by_cases c3 : a1 < 0 ∨ 1000 < a1.toNatClampNeg
    · rw [if_pos c3] at hm; cases hm
    rw [if_neg c3] at hm
    refine q_newa C Rm (atype := .int) (t := 1) (N' := a1.toNatClampNeg) (ty := .int) (n := a1) (.inl (fun _ => 0)) rfl aw_int (fun _ => rfl) (fun _ _ h => h) (fun _ => rfl) (fun q => c3 (Or.inl q)) rfl (Nat.le_trans (Nat.mul_le_mul_right _ (Nat.not_lt.mp fun q => c3 (Or.inr q))) (Nat.le_of_ble_eq_true rfl)) ⟨by decide, Nat.le_trans (Nat.add_le_add_left (Nat.not_lt.mp fun q => c3 (Or.inr q)) _) (Nat.le_of_ble_eq_true rfl)⟩ (by decide +kernel) ?_
    refine q_widen (k := 1) (n := 1000) (Nat.le_of_ble_eq_true rfl) (Nat.add_le_add_left (Nat.not_lt.mp fun q => c3 (Or.inr q)) _) ?_
    refine q_astore_n C Rm.1 (k4 := 2) (i := 2) rfl (lv' := [(2, .ref z), (0, .ref a0), (1, .int a1)]) rfl (by decide) (by decide +kernel) ?_
    refine q_aload_n C (k4 := 0) 1 rfl (by decide +kernel) ?_
    refine q_iconst C (n := 0) (v := 0) (by decide) (by decide +kernel) ?_
    refine q_aload_n C (k4 := 2) 0 rfl (by decide +kernel) ?_
    refine q_iconst C (n := 0) (v := 0) (by decide) (by decide +kernel) ?_
    refine q_aload_n C (k4 := 0) 1 rfl (by decide +kernel) ?_
    refine q_len C hm (by decide +kernel) (fun v4 hm => ?_)
    refine q_iload_n C (k4 := 1) 2 rfl (by decide +kernel) ?_
    refine q_mmin C Rm ml_J7_304 (by decide) (Nat.le_of_ble_eq_true rfl) ⟨Nat.le_refl _, Nat.le_refl _⟩ (by decide +kernel) ?_
    refine q_copy C Rm ml_J7_150 cp_nat cp_stat cp_ini hm (by decide) (Nat.le_of_ble_eq_true rfl) (by decide +kernel) (fun h5 hm => ?_)
    refine q_aload_n C (k4 := 2) 0 rfl (by decide +kernel) ?_
    exact q_rnA hm K ⟨Nat.le_of_ble_eq_true rfl, Nat.le_of_ble_eq_true rfl⟩ (by decide +kernel)
  · refine q_aload_n C (k4 := 0) 0 rfl (by decide +kernel) ?_
    refine q_clone C Rm 1000 ml_J7_316 cn_2 cn_3 cn_4 cn_5 hm (by decide) ⟨Nat.le_of_ble_eq_true rfl, Nat.le_of_ble_eq_true rfl⟩ (by decide +kernel) (fun n6 g7 hm => ?_)
    refine q_cast C cn_1 (n := n6) (g := g7) (by simp [va_up]) (by decide +kernel) ?_
    exact q_rnA hm K ⟨Nat.le_of_ble_eq_true rfl, Nat.le_of_ble_eq_true rfl⟩ (by decide +kernel)
def m_X7_made (z : Nat) (h : q_H) (a0 : Nat) : Option (Nat × Nat × q_H) :=
  let h1 := va_up h z (.inr (6, [.null, .null]))
  (q_gn h1 a0 7 1).bind fun v2 =>
  (q_gi h1 a0 7 2).bind fun v3 =>
  (m_J7_copyOf_59c91 (z + 1) h1 v2 v3).bind fun (r4, z5, h6) =>
  (q_gn h6 a0 7 3).bind fun v7 =>
  (q_gi h6 a0 7 4).bind fun v8 =>
  (m_J7_copyOf_59c91 z5 h6 v7 v8).bind fun (r9, z10, h11) =>
  (m_X6_init h11 z r4 r9).bind fun h12 =>
  some (z, z10, h12)
set_option maxRecDepth 20000 in
set_option maxHeartbeats 1000000 in
theorem c_X7_made (l : Launch) (base : Nat) (D : va_G) (tc : Nat → ClassId) (z : Nat) (h : q_H) (a0 : Nat) {r : Nat} {sz' : Nat} {h' : q_H} (hm : m_X7_made z h a0 = some (r, sz', h')) : q_M l yX7_made cX7_made 1 (some (.object "TugRope$Rule")) 4 102 3 2002 base D tc [.ref a0] z h (some (.ref r)) sz' h' := by
  refine q_starta (r := some r) (Or.inl ⟨_, rfl⟩) (by decide) (Nat.le_of_ble_eq_true rfl) (fun Γ B K => ?_)
  obtain ⟨C, Rm, -⟩ := B
  have C : q_C Γ cX7_made RX7 := C
  show q_V Γ z 0 0 h [(0, .ref a0)] [] 0
  unfold m_X7_made at hm
  refine q_new C Rm q_FX6 [.null, .null] df_6 cl_X7_56 in_6 ni_6 (by decide) (by decide +kernel) ?_
  refine q_dup C rfl (by decide +kernel) ?_
  refine q_aload_n C (k4 := 0) 0 rfl (by decide +kernel) ?_
  refine q_getn C fl_7_17 hm (by decide +kernel) (fun v2 hm => ?_)
  refine q_aload_n C (k4 := 0) 0 rfl (by decide +kernel) ?_
  refine q_geti C fl_7_27 hm (by decide +kernel) (fun v3 hm => ?_)
  refine q_saA C Rm (As := [.ref v2, .int v3]) (rest := [.ref z, .ref z]) Y_J7_copyOf_59c91 Ys_J7_copyOf_59c91 ml_X7_58 (by decide) ⟨Nat.le_of_ble_eq_true rfl, Nat.le_of_ble_eq_true rfl⟩ hm (fun r9 z9 h9 e9 => c_J7_copyOf_59c91 _ _ _ _ _ _ _ _ e9) rfl rfl (Nat.le_of_ble_eq_true rfl) (by decide +kernel) (fun r4 z5 h6 hm => ?_)
  refine q_aload_n C (k4 := 0) 0 rfl (by decide +kernel) ?_
  refine q_getn C fl_7_21 hm (by decide +kernel) (fun v7 hm => ?_)
  refine q_aload_n C (k4 := 0) 0 rfl (by decide +kernel) ?_
  refine q_geti C fl_7_31 hm (by decide +kernel) (fun v8 hm => ?_)
  refine q_saA C Rm (As := [.ref v7, .int v8]) (rest := [.ref r4, .ref z, .ref z]) Y_J7_copyOf_59c91 Ys_J7_copyOf_59c91 ml_X7_58 (by decide) ⟨Nat.le_of_ble_eq_true rfl, Nat.le_of_ble_eq_true rfl⟩ hm (fun r9 z9 h9 e9 => c_J7_copyOf_59c91 _ _ _ _ _ _ _ _ e9) rfl rfl (Nat.le_of_ble_eq_true rfl) (by decide +kernel) (fun r9 z10 h11 hm => ?_)
  refine q_inS C Rm (As := [.ref r4, .ref r9]) (rest := [.ref z]) Y_X6_init Yi_X6_init ml_X7_64 (by decide) ⟨Nat.le_of_ble_eq_true rfl, Nat.le_of_ble_eq_true rfl⟩ hm (fun h9 e9 => c_X6_init _ _ _ _ _ _ _ _ _ e9) rfl rfl (Nat.le_of_ble_eq_true rfl) (by decide +kernel) (fun h12 hm => ?_)
  exact q_rnA hm K ⟨Nat.le_of_ble_eq_true rfl, Nat.le_of_ble_eq_true rfl⟩ (by decide +kernel)
def m_X9_init (z : Nat) (h : q_H) (a0 : Nat) : Option (Nat × q_H) :=
  let h1 := va_up h z (.inl (0, 400, .inl (fun _ => 0)))
  (q_pf h1 a0 9 0 (.ref z)).bind fun h2 =>
  (q_pf h2 a0 9 1 (.int ((0 : Int32)))).bind fun h3 =>
  some (z + 1, h3)
set_option maxRecDepth 20000 in
set_option maxHeartbeats 1000000 in
theorem c_X9_init (l : Launch) (base : Nat) (D : va_G) (tc : Nat → ClassId) (z : Nat) (h : q_H) (a0 : Nat) {sz' : Nat} {h' : q_H} (hm : m_X9_init z h a0 = some (sz', h')) : q_M l yX9_init cX9_init 1 none 3 80 1 400 base D tc [.ref a0] z h none sz' h' := by
  refine q_startv (by decide) (Nat.le_of_ble_eq_true rfl) (fun Γ B K => ?_)
  obtain ⟨C, Rm, -, -, -, -, hin⟩ := B
  have hin : Γ.1.2.2.2.2.2.2.2.2.1.name = "<init>" := hin
  have C : q_C Γ cX9_init RX9 := C
  show q_V Γ z 0 0 h [(0, .ref a0)] [] 0
  unfold m_X9_init at hm
  refine q_aload_n C (k4 := 0) 0 rfl (by decide +kernel) ?_
  refine q_obj C Rm ml_X9_1 ob_i ob_c (by decide) (by decide +kernel) ?_
  refine q_aload_n C (k4 := 0) 0 rfl (by decide +kernel) ?_
  refine q_sipush C (n := 400) (v := 400) (by decide) (by decide +kernel) ?_
  refine q_newa C Rm (atype := .byte) (t := 0) (N' := 400) (ty := .byte) (n := 400) (.inl (fun _ => 0)) rfl aw_byte (fun _ => rfl) (fun _ _ h => h) (fun _ => rfl) (by decide) (by decide +kernel) (Nat.le_of_ble_eq_true rfl) ⟨Nat.le_of_ble_eq_true rfl, Nat.le_of_ble_eq_true rfl⟩ (by decide +kernel) ?_
  refine q_putF C hin ff_9_9 hm rfl rfl (by decide +kernel) (fun h2 hm => ?_)
  refine q_aload_n C (k4 := 0) 0 rfl (by decide +kernel) ?_
  refine q_iconst C (n := 0) (v := 0) (by decide) (by decide +kernel) ?_
  refine q_putf C fl_9_13 hm rfl rfl (by decide +kernel) (fun h3 hm => ?_)
  exact q_rvA hm K ⟨Nat.le_of_ble_eq_true rfl, Nat.le_of_ble_eq_true rfl⟩ (by decide +kernel)
def m_X11_rope (z : Nat) (h : q_H) (a0 : Nat) : Option (Int32 × Nat × q_H) :=
  let h1 := va_up h z (.inr (4, [.int 0, .int 0, .int 0, .int 0, .null, .null, .null, .null]))
  (m_X4_init (z + 1) h1 z).bind fun (z2, h3) =>
  (q_gn h3 a0 11 1).bind fun v4 =>
  (q_ca 5 h3 v4 (m_X5_read h3 v4 z)).bind fun (r5, h6) =>
  (q_gn h6 a0 11 0).bind fun v8 =>
  (q_pf h6 v8 9 1 (.int ((0 : Int32)))).bind fun h9 =>
  if r5 = 0 then
    (q_gn h9 a0 11 5).bind fun v10 =>
    (q_pf h9 v10 0 0 (.ref z)).bind fun h11 =>
    (q_gn h11 a0 11 5).bind fun v12 =>
    (q_gn h11 v12 0 1).bind fun v13 =>
    (q_ca 10 h11 v13 (m_X10_begin h11 v13 z)).bind fun h15 =>
    (q_gn h15 a0 11 5).bind fun v16 =>
    (q_pf h15 v16 0 4 (.int ((0 : Int32)))).bind fun h17 =>
    (q_gn h17 a0 11 6).bind fun v18 =>
    (q_ca 2 h17 v18 (m_X2_clear h17 v18)).bind fun h20 =>
    (q_gi h20 z 4 3).bind fun v21 =>
    some (v21, z2, h20)
  else
    some (((-2 : Int32) - r5), z2, h9)
set_option maxRecDepth 20000 in
set_option maxHeartbeats 1000000 in
theorem c_X11_rope (l : Launch) (base : Nat) (D : va_G) (tc : Nat → ClassId) (z : Nat) (h : q_H) (a0 : Nat) {r : Int32} {sz' : Nat} {h' : q_H} (hm : m_X11_rope z h a0 = some (r, sz', h')) : q_M l yX11_rope cX11_rope 3 (some .int) 8 184 5 40 base D tc [.ref a0] z h (some (.int r)) sz' h' := by
  refine q_starti (by decide) (Nat.le_of_ble_eq_true rfl) (fun Γ B K => ?_)
  obtain ⟨C, Rm, -⟩ := B
  have C : q_C Γ cX11_rope RX11 := C
  show q_V Γ z 0 0 h [(0, .ref a0)] [] 0
  unfold m_X11_rope at hm
  refine q_new C Rm q_FX4 [.int 0, .int 0, .int 0, .int 0, .null, .null, .null, .null] df_4 cl_X11_92 in_4 ni_4 (by decide) (by decide +kernel) ?_
  refine q_dup C rfl (by decide +kernel) ?_
  refine q_inA C Rm (As := []) (rest := [.ref z]) Y_X4_init Yi_X4_init ml_X11_94 (by decide) ⟨Nat.le_of_ble_eq_true rfl, Nat.le_of_ble_eq_true rfl⟩ hm (fun z9 h9 e9 => c_X4_init _ _ _ _ _ _ _ e9) rfl rfl (Nat.le_of_ble_eq_true rfl) (by decide +kernel) (fun z2 h3 hm => ?_)
  refine q_astore_n C Rm.1 (k4 := 1) (i := 1) rfl (lv' := [(1, .ref z), (0, .ref a0)]) rfl (by decide) (by decide +kernel) ?_
  refine q_aload_n C (k4 := 0) 1 rfl (by decide +kernel) ?_
  refine q_getn C fl_11_26 hm (by decide +kernel) (fun v4 hm => ?_)
  refine q_aload_n C (k4 := 1) 0 rfl (by decide +kernel) ?_
  refine q_viS C Rm (As := [.ref z]) (rest := []) Y_X5_read Yv_X5_read ml_X11_95 (by decide) (by decide) hm (fun r5 h6 e9 => c_X5_read _ _ _ _ _ _ _ _ e9) rfl rfl (Nat.le_of_ble_eq_true rfl) (by decide +kernel) (fun r5 h6 hm z7 => ?_)
  refine q_istore_n C Rm.1 (k4 := 2) (i := 2) rfl (lv' := [(2, .int r5), (1, .ref z), (0, .ref a0)]) rfl (by decide) (by decide +kernel) ?_
  refine q_aload_n C (k4 := 0) 2 rfl (by decide +kernel) ?_
  refine q_getn C fl_11_10 hm (by decide +kernel) (fun v8 hm => ?_)
  refine q_iconst C (n := 0) (v := 0) (by decide) (by decide +kernel) ?_
  refine q_putf C fl_11_89 hm rfl rfl (by decide +kernel) (fun h9 hm => ?_)
  refine q_iload_n C (k4 := 2) 0 rfl (by decide +kernel) ?_
  refine q_if_eq C (off := 8) 34 hm (by decide +kernel) (by decide) (fun _ hm => ?_) (fun _ hm => ?_)
  · refine q_aload_n C (k4 := 0) 2 rfl (by decide +kernel) ?_
    refine q_getn C fl_11_50 hm (by decide +kernel) (fun v10 hm => ?_)
    refine q_aload_n C (k4 := 1) 1 rfl (by decide +kernel) ?_
    refine q_putf C fl_11_99 hm rfl rfl (by decide +kernel) (fun h11 hm => ?_)
    refine q_aload_n C (k4 := 0) 2 rfl (by decide +kernel) ?_
    refine q_getn C fl_11_50 hm (by decide +kernel) (fun v12 hm => ?_)
    refine q_getn C fl_11_103 hm (by decide +kernel) (fun v13 hm => ?_)
    refine q_aload_n C (k4 := 1) 1 rfl (by decide +kernel) ?_
    refine q_vvS C Rm (As := [.ref z]) (rest := []) Y_X10_begin Yv_X10_begin ml_X11_107 (by decide) (by decide) hm (fun h15 e9 => c_X10_begin _ _ _ _ _ _ _ _ e9) rfl rfl (Nat.le_of_ble_eq_true rfl) (by decide +kernel) (fun h15 hm => ?_)
    refine q_aload_n C (k4 := 0) 2 rfl (by decide +kernel) ?_
    refine q_getn C fl_11_50 hm (by decide +kernel) (fun v16 hm => ?_)
    refine q_iconst C (n := 0) (v := 0) (by decide) (by decide +kernel) ?_
    refine q_putf C fl_11_113 hm rfl rfl (by decide +kernel) (fun h17 hm => ?_)
    refine q_aload_n C (k4 := 0) 2 rfl (by decide +kernel) ?_
    refine q_getn C fl_11_57 hm (by decide +kernel) (fun v18 hm => ?_)
    refine q_vvS C Rm (As := []) (rest := []) Y_X2_clear Yv_X2_clear ml_X11_116 (by decide) (by decide) hm (fun h20 e9 => c_X2_clear _ _ _ _ _ _ _ e9) rfl rfl (Nat.le_of_ble_eq_true rfl) (by decide +kernel) (fun h20 hm => ?_)
    refine q_aload_n C (k4 := 1) 1 rfl (by decide +kernel) ?_
    refine q_geti C fl_11_119 hm (by decide +kernel) (fun v21 hm => ?_)
    exact q_riA hm K rfl ⟨Nat.le_of_ble_eq_true rfl, Nat.le_of_ble_eq_true rfl⟩ (by decide +kernel)
  · refine q_bipush C (n := (-2)) (v := (-2)) (by decide) (by decide +kernel) ?_
    refine q_iload_n C (k4 := 2) 0 rfl (by decide +kernel) ?_
    refine q_isub C (by decide +kernel) ?_
    exact q_riA hm K rfl ⟨Nat.le_of_ble_eq_true rfl, Nat.le_of_ble_eq_true rfl⟩ (by decide +kernel)
def m_X11_rule (z : Nat) (h : q_H) (a0 : Nat) : Option (Int32 × Nat × q_H) :=
  (q_gi h a0 11 4).bind fun v1 =>
  if v1 < (6 : Int32) then
    (q_gn h a0 11 2).bind fun v2 =>
    (q_ca 7 h v2 (m_X7_read h v2)).bind fun (r3, h4) =>
    (q_gn h4 a0 11 0).bind fun v6 =>
    (q_pf h4 v6 9 1 (.int ((0 : Int32)))).bind fun h7 =>
    if r3 = 0 then
      (q_gn h7 a0 11 3).bind fun v8 =>
      (q_gi h7 a0 11 4).bind fun v9 =>
      (q_gn h7 a0 11 2).bind fun v10 =>
      (q_ca 7 h7 v10 (m_X7_made z h7 v10)).bind fun (r11, z12, h13) =>
      (q_sr h13 v8 5 6 v9 r11).bind fun h14 =>
      (q_gi h14 a0 11 4).bind fun v15 =>
      (q_pf h14 a0 11 4 (.int ((v15 + (1 : Int32))))).bind fun h16 =>
      (q_gi h16 a0 11 4).bind fun v17 =>
      some ((v17 - (1 : Int32)), z12, h16)
    else
      some (((-2 : Int32) - r3), z, h7)
  else
    some ((-1 : Int32), z, h)
set_option maxRecDepth 20000 in
set_option maxHeartbeats 1000000 in
theorem c_X11_rule (l : Launch) (base : Nat) (D : va_G) (tc : Nat → ClassId) (z : Nat) (h : q_H) (a0 : Nat) {r : Int32} {sz' : Nat} {h' : q_H} (hm : m_X11_rule z h a0 = some (r, sz', h')) : q_M l yX11_rule cX11_rule 2 (some .int) 8 183 3 2002 base D tc [.ref a0] z h (some (.int r)) sz' h' := by
  refine q_starti (by decide) (Nat.le_of_ble_eq_true rfl) (fun Γ B K => ?_)
  obtain ⟨C, Rm, -⟩ := B
  have C : q_C Γ cX11_rule RX11 := C
  show q_V Γ z 0 0 h [(0, .ref a0)] [] 0
  unfold m_X11_rule at hm
  refine q_aload_n C (k4 := 0) 0 rfl (by decide +kernel) ?_
  refine q_geti C fl_11_43 hm (by decide +kernel) (fun v1 hm => ?_)
  refine q_bipush C (n := 6) (v := 6) (by decide) (by decide +kernel) ?_
  refine q_icmp_lt C (off := 5) 11 hm (by decide +kernel) (by decide) (fun _ hm => ?_) (fun _ hm => ?_)
  · refine q_aload_n C (k4 := 0) 0 rfl (by decide +kernel) ?_
    refine q_getn C fl_11_33 hm (by decide +kernel) (fun v2 hm => ?_)
    refine q_viS C Rm (As := []) (rest := []) Y_X7_read Yv_X7_read ml_X11_122 (by decide) (by decide) hm (fun r3 h4 e9 => c_X7_read _ _ _ _ _ _ _ e9) rfl rfl (Nat.le_of_ble_eq_true rfl) (by decide +kernel) (fun r3 h4 hm z5 => ?_)
    refine q_istore_n C Rm.1 (k4 := 1) (i := 1) rfl (lv' := [(1, .int r3), (0, .ref a0)]) rfl (by decide) (by decide +kernel) ?_
    refine q_aload_n C (k4 := 0) 1 rfl (by decide +kernel) ?_
    refine q_getn C fl_11_10 hm (by decide +kernel) (fun v6 hm => ?_)
    refine q_iconst C (n := 0) (v := 0) (by decide) (by decide +kernel) ?_
    refine q_putf C fl_11_89 hm rfl rfl (by decide +kernel) (fun h7 hm => ?_)
    refine q_iload_n C (k4 := 1) 0 rfl (by decide +kernel) ?_
    refine q_if_eq C (off := 8) 36 hm (by decide +kernel) (by decide) (fun _ hm => ?_) (fun _ hm => ?_)
    · refine q_aload_n C (k4 := 0) 1 rfl (by decide +kernel) ?_
      refine q_getn C fl_11_39 hm (by decide +kernel) (fun v8 hm => ?_)
      refine q_aload_n C (k4 := 0) 1 rfl (by decide +kernel) ?_
      refine q_geti C fl_11_43 hm (by decide +kernel) (fun v9 hm => ?_)
      refine q_aload_n C (k4 := 0) 1 rfl (by decide +kernel) ?_
      refine q_getn C fl_11_33 hm (by decide +kernel) (fun v10 hm => ?_)
      refine q_vaA C Rm (As := []) (rest := [.int v9, .ref v8]) Y_X7_made Yv_X7_made ml_X11_125 (by decide) ⟨Nat.le_of_ble_eq_true rfl, Nat.le_of_ble_eq_true rfl⟩ hm (fun r9 z9 h9 e9 => c_X7_made _ _ _ _ _ _ _ e9) rfl rfl (Nat.le_of_ble_eq_true rfl) (by decide +kernel) (fun r11 z12 h13 hm => ?_)
      refine q_rw C (t := 5) (ci := 6) (fun _ => rfl) rfl (by decide) hm (by decide +kernel) (fun h14 hm => ?_)
      refine q_aload_n C (k4 := 0) 1 rfl (by decide +kernel) ?_
      refine q_dup C rfl (by decide +kernel) ?_
      refine q_geti C fl_11_43 hm (by decide +kernel) (fun v15 hm => ?_)
      refine q_iconst C (n := 1) (v := 1) (by decide) (by decide +kernel) ?_
      refine q_iadd C (by decide +kernel) ?_
      refine q_putf C fl_11_43 hm rfl rfl (by decide +kernel) (fun h16 hm => ?_)
      refine q_aload_n C (k4 := 0) 1 rfl (by decide +kernel) ?_
      refine q_geti C fl_11_43 hm (by decide +kernel) (fun v17 hm => ?_)
      refine q_iconst C (n := 1) (v := 1) (by decide) (by decide +kernel) ?_
      refine q_isub C (by decide +kernel) ?_
      exact q_riA hm K rfl ⟨Nat.le_of_ble_eq_true rfl, Nat.le_of_ble_eq_true rfl⟩ (by decide +kernel)
    · refine q_bipush C (n := (-2)) (v := (-2)) (by decide) (by decide +kernel) ?_
      refine q_iload_n C (k4 := 1) 0 rfl (by decide +kernel) ?_
      refine q_isub C (by decide +kernel) ?_
      exact q_riA hm K rfl ⟨Nat.le_of_ble_eq_true rfl, Nat.le_of_ble_eq_true rfl⟩ (by decide +kernel)
  · refine q_iconst C (n := (-1)) (v := (-1)) (by decide) (by decide +kernel) ?_
    exact q_riA hm K rfl ⟨Nat.le_of_ble_eq_true rfl, Nat.le_of_ble_eq_true rfl⟩ (by decide +kernel)
def m_X11_swings (h0 : q_H) (a0 : Nat) (a1 : Int32) : Option Int32 :=
  (q_gn h0 a0 11 5).bind fun v1 =>
  (q_ca 0 h0 v1 (m_X0_has h0 v1 a1)).bind fun r2 =>
  if r2 = 0 then
    some ((-1 : Int32))
  else
    (q_gn h0 a0 11 5).bind fun v4 =>
    (q_gn h0 v4 0 0).bind fun v5 =>
    (q_ca 4 h0 v5 (m_X4_tipsBy h0 v5 a1 ((0 : Int32)))).bind fun r6 =>
    some r6
set_option maxRecDepth 20000 in
set_option maxHeartbeats 1000000 in
theorem c_X11_swings (l : Launch) (base : Nat) (D : va_G) (tc : Nat → ClassId) (sz : Nat) (h0 : q_H) (a0 : Nat) (a1 : Int32) {r : Int32} (hm : m_X11_swings h0 a0 a1 = some r) : q_M l yX11_swings cX11_swings 2 (some .int) 3 69 0 0 base D tc [.ref a0, .int a1] sz h0 (some (.int r)) sz h0 := by
  refine q_starti (by decide) (Nat.le_of_ble_eq_true rfl) (fun Γ B K => ?_)
  obtain ⟨C, Rm, -⟩ := B
  have C : q_C Γ cX11_swings RX11 := C
  show q_V Γ sz 0 0 h0 [(0, .ref a0), (1, .int a1)] [] 0
  unfold m_X11_swings at hm
  refine q_aload_n C (k4 := 0) 0 rfl (by decide +kernel) ?_
  refine q_getn C fl_11_50 hm (by decide +kernel) (fun v1 hm => ?_)
  refine q_iload_n C (k4 := 1) 1 rfl (by decide +kernel) ?_
  refine q_viP C Rm (As := [.int a1]) (rest := []) Y_X0_has Yv_X0_has ml_X11_132 (by decide) (by decide) hm (fun r9 e9 => c_X0_has _ _ _ _ _ _ _ _ e9) rfl rfl (Nat.le_of_ble_eq_true rfl) (by decide +kernel) (fun r2 hm z3 => ?_)
  refine q_if_eq C (off := 18) 26 hm (by decide +kernel) (by decide) (fun _ hm => ?_) (fun _ hm => ?_)
  · refine q_iconst C (n := (-1)) (v := (-1)) (by decide) (by decide +kernel) ?_
    exact q_riP hm K rfl (by decide +kernel)
  · refine q_aload_n C (k4 := 0) 0 rfl (by decide +kernel) ?_
    refine q_getn C fl_11_50 hm (by decide +kernel) (fun v4 hm => ?_)
    refine q_getn C fl_11_99 hm (by decide +kernel) (fun v5 hm => ?_)
    refine q_iload_n C (k4 := 1) 1 rfl (by decide +kernel) ?_
    refine q_iconst C (n := 0) (v := 0) (by decide) (by decide +kernel) ?_
    refine q_viP C Rm (As := [.int a1, .int ((0 : Int32))]) (rest := []) Y_X4_tipsBy Yv_X4_tipsBy ml_X11_207 (by decide) (by decide) hm (fun r9 e9 => c_X4_tipsBy _ _ _ _ _ _ _ _ _ e9) rfl rfl (Nat.le_of_ble_eq_true rfl) (by decide +kernel) (fun r6 hm z7 => ?_)
    refine q_goto C (off := 4) 27 (by decide +kernel) (by decide) ?_
    exact q_riP hm K rfl (by decide +kernel)
def m_X11_shares (h0 : q_H) (a0 : Nat) (a1 : Int32) : Option Int32 :=
  (q_gn h0 a0 11 5).bind fun v1 =>
  (q_ca 0 h0 v1 (m_X0_has h0 v1 a1)).bind fun r2 =>
  if r2 = 0 then
    some ((-1 : Int32))
  else
    (q_gn h0 a0 11 5).bind fun v4 =>
    (q_gn h0 v4 0 0).bind fun v5 =>
    (q_ca 4 h0 v5 (m_X4_tipsBy h0 v5 a1 ((1 : Int32)))).bind fun r6 =>
    some r6
set_option maxRecDepth 20000 in
set_option maxHeartbeats 1000000 in
theorem c_X11_shares (l : Launch) (base : Nat) (D : va_G) (tc : Nat → ClassId) (sz : Nat) (h0 : q_H) (a0 : Nat) (a1 : Int32) {r : Int32} (hm : m_X11_shares h0 a0 a1 = some r) : q_M l yX11_shares cX11_shares 2 (some .int) 3 69 0 0 base D tc [.ref a0, .int a1] sz h0 (some (.int r)) sz h0 := by
  refine q_starti (by decide) (Nat.le_of_ble_eq_true rfl) (fun Γ B K => ?_)
  obtain ⟨C, Rm, -⟩ := B
  have C : q_C Γ cX11_shares RX11 := C
  show q_V Γ sz 0 0 h0 [(0, .ref a0), (1, .int a1)] [] 0
  unfold m_X11_shares at hm
  refine q_aload_n C (k4 := 0) 0 rfl (by decide +kernel) ?_
  refine q_getn C fl_11_50 hm (by decide +kernel) (fun v1 hm => ?_)
  refine q_iload_n C (k4 := 1) 1 rfl (by decide +kernel) ?_
  refine q_viP C Rm (As := [.int a1]) (rest := []) Y_X0_has Yv_X0_has ml_X11_132 (by decide) (by decide) hm (fun r9 e9 => c_X0_has _ _ _ _ _ _ _ _ e9) rfl rfl (Nat.le_of_ble_eq_true rfl) (by decide +kernel) (fun r2 hm z3 => ?_)
  refine q_if_eq C (off := 18) 26 hm (by decide +kernel) (by decide) (fun _ hm => ?_) (fun _ hm => ?_)
  · refine q_iconst C (n := (-1)) (v := (-1)) (by decide) (by decide +kernel) ?_
    exact q_riP hm K rfl (by decide +kernel)
  · refine q_aload_n C (k4 := 0) 0 rfl (by decide +kernel) ?_
    refine q_getn C fl_11_50 hm (by decide +kernel) (fun v4 hm => ?_)
    refine q_getn C fl_11_99 hm (by decide +kernel) (fun v5 hm => ?_)
    refine q_iload_n C (k4 := 1) 1 rfl (by decide +kernel) ?_
    refine q_iconst C (n := 1) (v := 1) (by decide) (by decide +kernel) ?_
    refine q_viP C Rm (As := [.int a1, .int ((1 : Int32))]) (rest := []) Y_X4_tipsBy Yv_X4_tipsBy ml_X11_207 (by decide) (by decide) hm (fun r9 e9 => c_X4_tipsBy _ _ _ _ _ _ _ _ _ e9) rfl rfl (Nat.le_of_ble_eq_true rfl) (by decide +kernel) (fun r6 hm z7 => ?_)
    refine q_goto C (off := 4) 27 (by decide +kernel) (by decide) ?_
    exact q_riP hm K rfl (by decide +kernel)
def m_X11_image_33  (z : Nat) (h : q_H) (x0 : Nat) (x1 : Int32) : Option (Int32 × Nat × q_H) :=
  (q_gn h x0 11 7).bind fun v8 =>
  ((q_ar h v8 4 x1).bind fun o => o).bind fun v9 =>
  (q_gn h x0 11 5).bind fun v10 =>
  (q_ca 0 h v9 (m_X0_copyFrom h v9 v10)).bind fun h12 =>
  (q_gn h12 x0 11 5).bind fun v13 =>
  (q_gn h12 v13 0 1).bind fun v14 =>
  (q_gi h12 v14 10 1).bind fun v15 =>
  some (v15, z, h12)
set_option maxRecDepth 20000 in
set_option maxHeartbeats 1000000 in
theorem v_X11_image_33 {Γ : q_G} {r : Int32} {sz' : Nat} {h' : q_H} (C : q_C Γ cX11_image RX11) (Rm : q_Rm Γ 2 5 122 8 66)  (K : narrow .int (.int r) = .int r → q_K Γ cX11_image .ireturn sz' h' 8 66 [.int r])  : ∀ (z : Nat) (h : q_H) (x0 : Nat) (x1 : Int32), m_X11_image_33 z h x0 x1 = some (r, sz', h') → q_V Γ z 8 66 h [(0, .ref x0), (1, .int x1)] [] 33 := by
  intro z h x0 x1 hm
  unfold m_X11_image_33 at hm
  refine q_aload_n C (k4 := 0) 0 rfl (by decide +kernel) ?_
  refine q_getn C fl_11_61 hm (by decide +kernel) (fun v8 hm => ?_)
  refine q_iload_n C (k4 := 1) 1 rfl (by decide +kernel) ?_
  refine q_rrn C (ty := (.object "TugRope$Game")) (fun _ => rfl) rfl hm (by decide +kernel) (fun v9 hm => ?_)
  refine q_aload_n C (k4 := 0) 0 rfl (by decide +kernel) ?_
  refine q_getn C fl_11_50 hm (by decide +kernel) (fun v10 hm => ?_)
  refine q_vvS C Rm (As := [.ref v10]) (rest := []) Y_X0_copyFrom Yv_X0_copyFrom ml_X11_286 (by decide) (by decide) hm (fun h12 e9 => c_X0_copyFrom _ _ _ _ _ _ _ _ e9) rfl rfl (Nat.le_of_ble_eq_true rfl) (by decide +kernel) (fun h12 hm => ?_)
  refine q_aload_n C (k4 := 0) 0 rfl (by decide +kernel) ?_
  refine q_getn C fl_11_50 hm (by decide +kernel) (fun v13 hm => ?_)
  refine q_getn C fl_11_103 hm (by decide +kernel) (fun v14 hm => ?_)
  refine q_geti C fl_11_160 hm (by decide +kernel) (fun v15 hm => ?_)
  exact q_riA hm K rfl ⟨Nat.le_of_ble_eq_true rfl, Nat.le_of_ble_eq_true rfl⟩ (by decide +kernel)
def m_X11_image (z : Nat) (h : q_H) (a0 : Nat) (a1 : Int32) : Option (Int32 × Nat × q_H) :=
  if a1 < 0 then
    some ((-1 : Int32), z, h)
  else
    if a1 < (4 : Int32) then
      (q_gn h a0 11 7).bind fun v1 =>
      (q_ar h v1 4 a1).bind fun v2 =>
      if v2 = none then
        (q_gn h a0 11 7).bind fun v3 =>
        let h4 := va_up h z (.inr (0, [.null, .null, .int 0, .int 0, .int 0, .null, .null]))
        (m_X0_init (z + 1) h4 z).bind fun (z5, h6) =>
        (q_sr h6 v3 4 0 a1 z).bind fun h7 =>
        m_X11_image_33 z5 h7 a0 a1
      else
        m_X11_image_33 z h a0 a1
    else
      some ((-1 : Int32), z, h)
set_option maxRecDepth 20000 in
set_option maxHeartbeats 1000000 in
theorem c_X11_image (l : Launch) (base : Nat) (D : va_G) (tc : Nat → ClassId) (z : Nat) (h : q_H) (a0 : Nat) (a1 : Int32) {r : Int32} {sz' : Nat} {h' : q_H} (hm : m_X11_image z h a0 a1 = some (r, sz', h')) : q_M l yX11_image cX11_image 2 (some .int) 5 122 8 66 base D tc [.ref a0, .int a1] z h (some (.int r)) sz' h' := by
  refine q_starti (by decide) (Nat.le_of_ble_eq_true rfl) (fun Γ B K => ?_)
  obtain ⟨C, Rm, -⟩ := B
  have C : q_C Γ cX11_image RX11 := C
  show q_V Γ z 0 0 h [(0, .ref a0), (1, .int a1)] [] 0
  unfold m_X11_image at hm
  refine q_iload_n C (k4 := 1) 1 rfl (by decide +kernel) ?_
  refine q_if_lt C (off := 8) 9 hm (by decide +kernel) (by decide) (fun _ hm => ?_) (fun _ hm => ?_)
  · refine q_iconst C (n := (-1)) (v := (-1)) (by decide) (by decide +kernel) ?_
    exact q_riA hm K rfl ⟨Nat.le_of_ble_eq_true rfl, Nat.le_of_ble_eq_true rfl⟩ (by decide +kernel)
  · refine q_iload_n C (k4 := 1) 1 rfl (by decide +kernel) ?_
    refine q_iconst C (n := 4) (v := 4) (by decide) (by decide +kernel) ?_
    refine q_icmp_lt C (off := 5) 11 hm (by decide +kernel) (by decide) (fun _ hm => ?_) (fun _ hm => ?_)
    · refine q_aload_n C (k4 := 0) 0 rfl (by decide +kernel) ?_
      refine q_getn C fl_11_61 hm (by decide +kernel) (fun v1 hm => ?_)
      refine q_iload_n C (k4 := 1) 1 rfl (by decide +kernel) ?_
      refine q_rr C (ty := (.object "TugRope$Game")) (fun _ => rfl) rfl hm (by decide +kernel) (fun v2 hm => ?_)
      refine q_ifnonnull C (off := 16) 33 hm (by decide +kernel) (by decide) (fun _ hm => ?_) (fun _ hm => ?_)
      · refine q_widen (k := 8) (n := 66) (Nat.le_of_ble_eq_true rfl) (Nat.le_of_ble_eq_true rfl) ?_
        exact v_X11_image_33 C Rm K _ _ _ _ hm
      · refine q_aload_n C (k4 := 0) 0 rfl (by decide +kernel) ?_
        refine q_getn C fl_11_61 hm (by decide +kernel) (fun v3 hm => ?_)
        refine q_iload_n C (k4 := 1) 1 rfl (by decide +kernel) ?_
        refine q_new C Rm q_FX0 [.null, .null, .int 0, .int 0, .int 0, .null, .null] df_0 cl_X11_47 in_0 ni_0 (by decide) (by decide +kernel) ?_
        refine q_dup C rfl (by decide +kernel) ?_
        refine q_inA C Rm (As := []) (rest := [.ref z, .int a1, .ref v3]) Y_X0_init Yi_X0_init ml_X11_49 (by decide) ⟨Nat.le_of_ble_eq_true rfl, Nat.le_of_ble_eq_true rfl⟩ hm (fun z9 h9 e9 => c_X0_init _ _ _ _ _ _ _ e9) rfl rfl (Nat.le_of_ble_eq_true rfl) (by decide +kernel) (fun z5 h6 hm => ?_)
        refine q_rw C (t := 4) (ci := 0) (fun _ => rfl) rfl (by decide) hm (by decide +kernel) (fun h7 hm => ?_)
        exact v_X11_image_33 C Rm K _ _ _ _ hm
    · refine q_iconst C (n := (-1)) (v := (-1)) (by decide) (by decide +kernel) ?_
      exact q_riA hm K rfl ⟨Nat.le_of_ble_eq_true rfl, Nat.le_of_ble_eq_true rfl⟩ (by decide +kernel)
def m_X12_init (z : Nat) (h : q_H) (a0 : Nat) : Option (Nat × q_H) :=
  let h1 := va_up h z (.inl (0, 400, .inl (fun _ => 0)))
  (q_pf h1 a0 12 0 (.ref z)).bind fun h2 =>
  let h3 := va_up h2 (z + 1) (.inl (1, 2400, .inl (fun _ => 0)))
  (q_pf h3 a0 12 3 (.ref (z + 1))).bind fun h4 =>
  let h5 := va_up h4 (z + 1 + 1) (.inl (1, 7, .inl (fun _ => 0)))
  (q_pf h5 a0 12 4 (.ref (z + 1 + 1))).bind fun h6 =>
  let h7 := va_up h6 (z + 1 + 1 + 1) (.inl (1, 288, .inl (fun _ => 0)))
  (q_pf h7 a0 12 5 (.ref (z + 1 + 1 + 1))).bind fun h8 =>
  let h9 := va_up h8 (z + 1 + 1 + 1 + 1) (.inl (1, 6, .inl (fun _ => 0)))
  (q_pf h9 a0 12 6 (.ref (z + 1 + 1 + 1 + 1))).bind fun h10 =>
  let h11 := va_up h10 (z + 1 + 1 + 1 + 1 + 1) (.inl (1, 85, .inl (fun _ => 0)))
  (q_pf h11 a0 12 7 (.ref (z + 1 + 1 + 1 + 1 + 1))).bind fun h12 =>
  let h13 := va_up h12 (z + 1 + 1 + 1 + 1 + 1 + 1) (.inl (1, 400, .inl (fun _ => 0)))
  (q_pf h13 a0 12 15 (.ref (z + 1 + 1 + 1 + 1 + 1 + 1))).bind fun h14 =>
  let h15 := va_up h14 (z + 1 + 1 + 1 + 1 + 1 + 1 + 1) (.inl (2, 64, .inr (.inl (fun _ => 0))))
  (q_pf h15 a0 12 17 (.ref (z + 1 + 1 + 1 + 1 + 1 + 1 + 1))).bind fun h16 =>
  let h17 := va_up h16 (z + 1 + 1 + 1 + 1 + 1 + 1 + 1 + 1) (.inl (2, 11, .inr (.inl (fun _ => 0))))
  (q_pf h17 a0 12 19 (.ref (z + 1 + 1 + 1 + 1 + 1 + 1 + 1 + 1))).bind fun h18 =>
  let h19 := va_up h18 (z + 1 + 1 + 1 + 1 + 1 + 1 + 1 + 1 + 1) (.inl (1, 106, .inl (fun _ => 0)))
  (q_pf h19 a0 12 20 (.ref (z + 1 + 1 + 1 + 1 + 1 + 1 + 1 + 1 + 1))).bind fun h20 =>
  (q_pf h20 a0 12 21 (.int ((-1 : Int32)))).bind fun h21 =>
  let h22 := va_up h21 (z + 1 + 1 + 1 + 1 + 1 + 1 + 1 + 1 + 1 + 1) (.inl (1, 8, .inl (fun _ => 0)))
  (q_si h22 (z + 1 + 1 + 1 + 1 + 1 + 1 + 1 + 1 + 1 + 1) 1 ((0 : Int32)) ((-1 : Int32))).bind fun h23 =>
  (q_si h23 (z + 1 + 1 + 1 + 1 + 1 + 1 + 1 + 1 + 1 + 1) 1 ((1 : Int32)) ((-1 : Int32))).bind fun h24 =>
  (q_si h24 (z + 1 + 1 + 1 + 1 + 1 + 1 + 1 + 1 + 1 + 1) 1 ((2 : Int32)) ((-1 : Int32))).bind fun h25 =>
  (q_si h25 (z + 1 + 1 + 1 + 1 + 1 + 1 + 1 + 1 + 1 + 1) 1 ((3 : Int32)) ((-1 : Int32))).bind fun h26 =>
  (q_si h26 (z + 1 + 1 + 1 + 1 + 1 + 1 + 1 + 1 + 1 + 1) 1 ((4 : Int32)) ((-1 : Int32))).bind fun h27 =>
  (q_si h27 (z + 1 + 1 + 1 + 1 + 1 + 1 + 1 + 1 + 1 + 1) 1 ((5 : Int32)) ((-1 : Int32))).bind fun h28 =>
  (q_si h28 (z + 1 + 1 + 1 + 1 + 1 + 1 + 1 + 1 + 1 + 1) 1 ((6 : Int32)) ((-1 : Int32))).bind fun h29 =>
  (q_si h29 (z + 1 + 1 + 1 + 1 + 1 + 1 + 1 + 1 + 1 + 1) 1 ((7 : Int32)) ((-1 : Int32))).bind fun h30 =>
  (q_pf h30 a0 12 23 (.ref (z + 1 + 1 + 1 + 1 + 1 + 1 + 1 + 1 + 1 + 1))).bind fun h31 =>
  let h32 := va_up h31 (z + 1 + 1 + 1 + 1 + 1 + 1 + 1 + 1 + 1 + 1 + 1) (.inl (1, 8, .inl (fun _ => 0)))
  (q_pf h32 a0 12 24 (.ref (z + 1 + 1 + 1 + 1 + 1 + 1 + 1 + 1 + 1 + 1 + 1))).bind fun h33 =>
  let h34 := va_up h33 (z + 1 + 1 + 1 + 1 + 1 + 1 + 1 + 1 + 1 + 1 + 1 + 1) (.inl (1, 840, .inl (fun _ => 0)))
  (q_pf h34 a0 12 25 (.ref (z + 1 + 1 + 1 + 1 + 1 + 1 + 1 + 1 + 1 + 1 + 1 + 1))).bind fun h35 =>
  let h36 := va_up h35 (z + 1 + 1 + 1 + 1 + 1 + 1 + 1 + 1 + 1 + 1 + 1 + 1 + 1) (.inl (1, 42, .inl (fun _ => 0)))
  (q_pf h36 a0 12 27 (.ref (z + 1 + 1 + 1 + 1 + 1 + 1 + 1 + 1 + 1 + 1 + 1 + 1 + 1))).bind fun h37 =>
  let h38 := va_up h37 (z + 1 + 1 + 1 + 1 + 1 + 1 + 1 + 1 + 1 + 1 + 1 + 1 + 1 + 1) (.inl (1, 32, .inl (fun _ => 0)))
  (q_pf h38 a0 12 28 (.ref (z + 1 + 1 + 1 + 1 + 1 + 1 + 1 + 1 + 1 + 1 + 1 + 1 + 1 + 1))).bind fun h39 =>
  let h40 := va_up h39 (z + 1 + 1 + 1 + 1 + 1 + 1 + 1 + 1 + 1 + 1 + 1 + 1 + 1 + 1 + 1) (.inl (1, 610, .inl (fun _ => 0)))
  (q_pf h40 a0 12 29 (.ref (z + 1 + 1 + 1 + 1 + 1 + 1 + 1 + 1 + 1 + 1 + 1 + 1 + 1 + 1 + 1))).bind fun h41 =>
  let h42 := va_up h41 (z + 1 + 1 + 1 + 1 + 1 + 1 + 1 + 1 + 1 + 1 + 1 + 1 + 1 + 1 + 1 + 1) (.inl (3, 7, .inl (fun _ => 0)))
  (q_pf h42 a0 12 30 (.ref (z + 1 + 1 + 1 + 1 + 1 + 1 + 1 + 1 + 1 + 1 + 1 + 1 + 1 + 1 + 1 + 1))).bind fun h43 =>
  let h44 := va_up h43 (z + 1 + 1 + 1 + 1 + 1 + 1 + 1 + 1 + 1 + 1 + 1 + 1 + 1 + 1 + 1 + 1 + 1) (.inl (1, 427, .inl (fun _ => 0)))
  (q_pf h44 a0 12 31 (.ref (z + 1 + 1 + 1 + 1 + 1 + 1 + 1 + 1 + 1 + 1 + 1 + 1 + 1 + 1 + 1 + 1 + 1))).bind fun h45 =>
  let h46 := va_up h45 (z + 1 + 1 + 1 + 1 + 1 + 1 + 1 + 1 + 1 + 1 + 1 + 1 + 1 + 1 + 1 + 1 + 1 + 1) (.inl (1, 424, .inl (fun _ => 0)))
  (q_pf h46 a0 12 33 (.ref (z + 1 + 1 + 1 + 1 + 1 + 1 + 1 + 1 + 1 + 1 + 1 + 1 + 1 + 1 + 1 + 1 + 1 + 1))).bind fun h47 =>
  let h48 := va_up h47 (z + 1 + 1 + 1 + 1 + 1 + 1 + 1 + 1 + 1 + 1 + 1 + 1 + 1 + 1 + 1 + 1 + 1 + 1 + 1) (.inl (1, 4, .inl (fun _ => 0)))
  (q_pf h48 a0 12 34 (.ref (z + 1 + 1 + 1 + 1 + 1 + 1 + 1 + 1 + 1 + 1 + 1 + 1 + 1 + 1 + 1 + 1 + 1 + 1 + 1))).bind fun h49 =>
  let h50 := va_up h49 (z + 1 + 1 + 1 + 1 + 1 + 1 + 1 + 1 + 1 + 1 + 1 + 1 + 1 + 1 + 1 + 1 + 1 + 1 + 1 + 1) (.inl (1, 4, .inl (fun _ => 0)))
  (q_pf h50 a0 12 35 (.ref (z + 1 + 1 + 1 + 1 + 1 + 1 + 1 + 1 + 1 + 1 + 1 + 1 + 1 + 1 + 1 + 1 + 1 + 1 + 1 + 1))).bind fun h51 =>
  let h52 := va_up h51 (z + 1 + 1 + 1 + 1 + 1 + 1 + 1 + 1 + 1 + 1 + 1 + 1 + 1 + 1 + 1 + 1 + 1 + 1 + 1 + 1 + 1) (.inl (3, 4, .inl (fun _ => 0)))
  (q_pf h52 a0 12 36 (.ref (z + 1 + 1 + 1 + 1 + 1 + 1 + 1 + 1 + 1 + 1 + 1 + 1 + 1 + 1 + 1 + 1 + 1 + 1 + 1 + 1 + 1))).bind fun h53 =>
  some (z + 1 + 1 + 1 + 1 + 1 + 1 + 1 + 1 + 1 + 1 + 1 + 1 + 1 + 1 + 1 + 1 + 1 + 1 + 1 + 1 + 1 + 1, h53)
set_option maxRecDepth 20000 in
set_option maxHeartbeats 1000000 in
theorem c_X12_init (l : Launch) (base : Nat) (D : va_G) (tc : Nat → ClassId) (z : Nat) (h : q_H) (a0 : Nat) {sz' : Nat} {h' : q_H} (hm : m_X12_init z h a0 = some (sz', h')) : q_M l yX12_init cX12_init 1 none 3 80 22 6177 base D tc [.ref a0] z h none sz' h' := by
  refine q_startv (by decide) (Nat.le_of_ble_eq_true rfl) (fun Γ B K => ?_)
  obtain ⟨C, Rm, -, -, -, -, hin⟩ := B
  have hin : Γ.1.2.2.2.2.2.2.2.2.1.name = "<init>" := hin
  have C : q_C Γ cX12_init RX12 := C
  show q_V Γ z 0 0 h [(0, .ref a0)] [] 0
  unfold m_X12_init at hm
  refine q_aload_n C (k4 := 0) 0 rfl (by decide +kernel) ?_
  refine q_obj C Rm ml_X12_1 ob_i ob_c (by decide) (by decide +kernel) ?_
  refine q_aload_n C (k4 := 0) 0 rfl (by decide +kernel) ?_
  refine q_sipush C (n := 400) (v := 400) (by decide) (by decide +kernel) ?_
  refine q_newa C Rm (atype := .byte) (t := 0) (N' := 400) (ty := .byte) (n := 400) (.inl (fun _ => 0)) rfl aw_byte (fun _ => rfl) (fun _ _ h => h) (fun _ => rfl) (by decide) (by decide +kernel) (Nat.le_of_ble_eq_true rfl) ⟨Nat.le_of_ble_eq_true rfl, Nat.le_of_ble_eq_true rfl⟩ (by decide +kernel) ?_
  refine q_putF C hin ff_12_7 hm rfl rfl (by decide +kernel) (fun h2 hm => ?_)
  refine q_aload_n C (k4 := 0) 0 rfl (by decide +kernel) ?_
  refine q_sipush C (n := 2400) (v := 2400) (by decide) (by decide +kernel) ?_
  refine q_newa C Rm (atype := .int) (t := 1) (N' := 2400) (ty := .int) (n := 2400) (.inl (fun _ => 0)) rfl aw_int (fun _ => rfl) (fun _ _ h => h) (fun _ => rfl) (by decide) (by decide +kernel) (Nat.le_of_ble_eq_true rfl) ⟨Nat.le_of_ble_eq_true rfl, Nat.le_of_ble_eq_true rfl⟩ (by decide +kernel) ?_
  refine q_putF C hin ff_12_13 hm rfl rfl (by decide +kernel) (fun h4 hm => ?_)
  refine q_aload_n C (k4 := 0) 0 rfl (by decide +kernel) ?_
  refine q_bipush C (n := 7) (v := 7) (by decide) (by decide +kernel) ?_
  refine q_newa C Rm (atype := .int) (t := 1) (N' := 7) (ty := .int) (n := 7) (.inl (fun _ => 0)) rfl aw_int (fun _ => rfl) (fun _ _ h => h) (fun _ => rfl) (by decide) (by decide +kernel) (Nat.le_of_ble_eq_true rfl) ⟨Nat.le_of_ble_eq_true rfl, Nat.le_of_ble_eq_true rfl⟩ (by decide +kernel) ?_
  refine q_putF C hin ff_12_17 hm rfl rfl (by decide +kernel) (fun h6 hm => ?_)
  refine q_aload_n C (k4 := 0) 0 rfl (by decide +kernel) ?_
  refine q_sipush C (n := 288) (v := 288) (by decide) (by decide +kernel) ?_
  refine q_newa C Rm (atype := .int) (t := 1) (N' := 288) (ty := .int) (n := 288) (.inl (fun _ => 0)) rfl aw_int (fun _ => rfl) (fun _ _ h => h) (fun _ => rfl) (by decide) (by decide +kernel) (Nat.le_of_ble_eq_true rfl) ⟨Nat.le_of_ble_eq_true rfl, Nat.le_of_ble_eq_true rfl⟩ (by decide +kernel) ?_
  refine q_putF C hin ff_12_20 hm rfl rfl (by decide +kernel) (fun h8 hm => ?_)
  refine q_aload_n C (k4 := 0) 0 rfl (by decide +kernel) ?_
  refine q_bipush C (n := 6) (v := 6) (by decide) (by decide +kernel) ?_
  refine q_newa C Rm (atype := .int) (t := 1) (N' := 6) (ty := .int) (n := 6) (.inl (fun _ => 0)) rfl aw_int (fun _ => rfl) (fun _ _ h => h) (fun _ => rfl) (by decide) (by decide +kernel) (Nat.le_of_ble_eq_true rfl) ⟨Nat.le_of_ble_eq_true rfl, Nat.le_of_ble_eq_true rfl⟩ (by decide +kernel) ?_
  refine q_putF C hin ff_12_23 hm rfl rfl (by decide +kernel) (fun h10 hm => ?_)
  refine q_aload_n C (k4 := 0) 0 rfl (by decide +kernel) ?_
  refine q_bipush C (n := 85) (v := 85) (by decide) (by decide +kernel) ?_
  refine q_newa C Rm (atype := .int) (t := 1) (N' := 85) (ty := .int) (n := 85) (.inl (fun _ => 0)) rfl aw_int (fun _ => rfl) (fun _ _ h => h) (fun _ => rfl) (by decide) (by decide +kernel) (Nat.le_of_ble_eq_true rfl) ⟨Nat.le_of_ble_eq_true rfl, Nat.le_of_ble_eq_true rfl⟩ (by decide +kernel) ?_
  refine q_putF C hin ff_12_26 hm rfl rfl (by decide +kernel) (fun h12 hm => ?_)
  refine q_aload_n C (k4 := 0) 0 rfl (by decide +kernel) ?_
  refine q_sipush C (n := 400) (v := 400) (by decide) (by decide +kernel) ?_
  refine q_newa C Rm (atype := .int) (t := 1) (N' := 400) (ty := .int) (n := 400) (.inl (fun _ => 0)) rfl aw_int (fun _ => rfl) (fun _ _ h => h) (fun _ => rfl) (by decide) (by decide +kernel) (Nat.le_of_ble_eq_true rfl) ⟨Nat.le_of_ble_eq_true rfl, Nat.le_of_ble_eq_true rfl⟩ (by decide +kernel) ?_
  refine q_putF C hin ff_12_29 hm rfl rfl (by decide +kernel) (fun h14 hm => ?_)
  refine q_aload_n C (k4 := 0) 0 rfl (by decide +kernel) ?_
  refine q_bipush C (n := 64) (v := 64) (by decide) (by decide +kernel) ?_
  refine q_newa C Rm (atype := .long) (t := 2) (N' := 64) (ty := .long) (n := 64) (.inr (.inl (fun _ => 0))) rfl aw_long (fun _ => rfl) (fun _ _ h => h) (fun _ => rfl) (by decide) (by decide +kernel) (Nat.le_of_ble_eq_true rfl) ⟨Nat.le_of_ble_eq_true rfl, Nat.le_of_ble_eq_true rfl⟩ (by decide +kernel) ?_
  refine q_putF C hin ff_12_32 hm rfl rfl (by decide +kernel) (fun h16 hm => ?_)
  refine q_aload_n C (k4 := 0) 0 rfl (by decide +kernel) ?_
  refine q_bipush C (n := 11) (v := 11) (by decide) (by decide +kernel) ?_
  refine q_newa C Rm (atype := .long) (t := 2) (N' := 11) (ty := .long) (n := 11) (.inr (.inl (fun _ => 0))) rfl aw_long (fun _ => rfl) (fun _ _ h => h) (fun _ => rfl) (by decide) (by decide +kernel) (Nat.le_of_ble_eq_true rfl) ⟨Nat.le_of_ble_eq_true rfl, Nat.le_of_ble_eq_true rfl⟩ (by decide +kernel) ?_
  refine q_putF C hin ff_12_36 hm rfl rfl (by decide +kernel) (fun h18 hm => ?_)
  refine q_aload_n C (k4 := 0) 0 rfl (by decide +kernel) ?_
  refine q_bipush C (n := 106) (v := 106) (by decide) (by decide +kernel) ?_
  refine q_newa C Rm (atype := .int) (t := 1) (N' := 106) (ty := .int) (n := 106) (.inl (fun _ => 0)) rfl aw_int (fun _ => rfl) (fun _ _ h => h) (fun _ => rfl) (by decide) (by decide +kernel) (Nat.le_of_ble_eq_true rfl) ⟨Nat.le_of_ble_eq_true rfl, Nat.le_of_ble_eq_true rfl⟩ (by decide +kernel) ?_
  refine q_putF C hin ff_12_39 hm rfl rfl (by decide +kernel) (fun h20 hm => ?_)
  refine q_aload_n C (k4 := 0) 0 rfl (by decide +kernel) ?_
  refine q_iconst C (n := (-1)) (v := (-1)) (by decide) (by decide +kernel) ?_
  refine q_putf C fl_12_42 hm rfl rfl (by decide +kernel) (fun h21 hm => ?_)
  refine q_aload_n C (k4 := 0) 0 rfl (by decide +kernel) ?_
  refine q_bipush C (n := 8) (v := 8) (by decide) (by decide +kernel) ?_
  refine q_newa C Rm (atype := .int) (t := 1) (N' := 8) (ty := .int) (n := 8) (.inl (fun _ => 0)) rfl aw_int (fun _ => rfl) (fun _ _ h => h) (fun _ => rfl) (by decide) (by decide +kernel) (Nat.le_of_ble_eq_true rfl) ⟨Nat.le_of_ble_eq_true rfl, Nat.le_of_ble_eq_true rfl⟩ (by decide +kernel) ?_
  refine q_dup C rfl (by decide +kernel) ?_
  refine q_iconst C (n := 0) (v := 0) (by decide) (by decide +kernel) ?_
  refine q_iconst C (n := (-1)) (v := (-1)) (by decide) (by decide +kernel) ?_
  refine q_iw C hm (by decide +kernel) (fun h23 hm => ?_)
  refine q_dup C rfl (by decide +kernel) ?_
  refine q_iconst C (n := 1) (v := 1) (by decide) (by decide +kernel) ?_
  refine q_iconst C (n := (-1)) (v := (-1)) (by decide) (by decide +kernel) ?_
  refine q_iw C hm (by decide +kernel) (fun h24 hm => ?_)
  refine q_dup C rfl (by decide +kernel) ?_
  refine q_iconst C (n := 2) (v := 2) (by decide) (by decide +kernel) ?_
  refine q_iconst C (n := (-1)) (v := (-1)) (by decide) (by decide +kernel) ?_
  refine q_iw C hm (by decide +kernel) (fun h25 hm => ?_)
  refine q_dup C rfl (by decide +kernel) ?_
  refine q_iconst C (n := 3) (v := 3) (by decide) (by decide +kernel) ?_
  refine q_iconst C (n := (-1)) (v := (-1)) (by decide) (by decide +kernel) ?_
  refine q_iw C hm (by decide +kernel) (fun h26 hm => ?_)
  refine q_dup C rfl (by decide +kernel) ?_
  refine q_iconst C (n := 4) (v := 4) (by decide) (by decide +kernel) ?_
  refine q_iconst C (n := (-1)) (v := (-1)) (by decide) (by decide +kernel) ?_
  refine q_iw C hm (by decide +kernel) (fun h27 hm => ?_)
  refine q_dup C rfl (by decide +kernel) ?_
  refine q_iconst C (n := 5) (v := 5) (by decide) (by decide +kernel) ?_
  refine q_iconst C (n := (-1)) (v := (-1)) (by decide) (by decide +kernel) ?_
  refine q_iw C hm (by decide +kernel) (fun h28 hm => ?_)
  refine q_dup C rfl (by decide +kernel) ?_
  refine q_bipush C (n := 6) (v := 6) (by decide) (by decide +kernel) ?_
  refine q_iconst C (n := (-1)) (v := (-1)) (by decide) (by decide +kernel) ?_
  refine q_iw C hm (by decide +kernel) (fun h29 hm => ?_)
  refine q_dup C rfl (by decide +kernel) ?_
  refine q_bipush C (n := 7) (v := 7) (by decide) (by decide +kernel) ?_
  refine q_iconst C (n := (-1)) (v := (-1)) (by decide) (by decide +kernel) ?_
  refine q_iw C hm (by decide +kernel) (fun h30 hm => ?_)
  refine q_putF C hin ff_12_46 hm rfl rfl (by decide +kernel) (fun h31 hm => ?_)
  refine q_aload_n C (k4 := 0) 0 rfl (by decide +kernel) ?_
  refine q_bipush C (n := 8) (v := 8) (by decide) (by decide +kernel) ?_
  refine q_newa C Rm (atype := .int) (t := 1) (N' := 8) (ty := .int) (n := 8) (.inl (fun _ => 0)) rfl aw_int (fun _ => rfl) (fun _ _ h => h) (fun _ => rfl) (by decide) (by decide +kernel) (Nat.le_of_ble_eq_true rfl) ⟨Nat.le_of_ble_eq_true rfl, Nat.le_of_ble_eq_true rfl⟩ (by decide +kernel) ?_
  refine q_putF C hin ff_12_49 hm rfl rfl (by decide +kernel) (fun h33 hm => ?_)
  refine q_aload_n C (k4 := 0) 0 rfl (by decide +kernel) ?_
  refine q_sipush C (n := 840) (v := 840) (by decide) (by decide +kernel) ?_
  refine q_newa C Rm (atype := .int) (t := 1) (N' := 840) (ty := .int) (n := 840) (.inl (fun _ => 0)) rfl aw_int (fun _ => rfl) (fun _ _ h => h) (fun _ => rfl) (by decide) (by decide +kernel) (Nat.le_of_ble_eq_true rfl) ⟨Nat.le_of_ble_eq_true rfl, Nat.le_of_ble_eq_true rfl⟩ (by decide +kernel) ?_
  refine q_putF C hin ff_12_52 hm rfl rfl (by decide +kernel) (fun h35 hm => ?_)
  refine q_aload_n C (k4 := 0) 0 rfl (by decide +kernel) ?_
  refine q_bipush C (n := 42) (v := 42) (by decide) (by decide +kernel) ?_
  refine q_newa C Rm (atype := .int) (t := 1) (N' := 42) (ty := .int) (n := 42) (.inl (fun _ => 0)) rfl aw_int (fun _ => rfl) (fun _ _ h => h) (fun _ => rfl) (by decide) (by decide +kernel) (Nat.le_of_ble_eq_true rfl) ⟨Nat.le_of_ble_eq_true rfl, Nat.le_of_ble_eq_true rfl⟩ (by decide +kernel) ?_
  refine q_putF C hin ff_12_55 hm rfl rfl (by decide +kernel) (fun h37 hm => ?_)
  refine q_aload_n C (k4 := 0) 0 rfl (by decide +kernel) ?_
  refine q_bipush C (n := 32) (v := 32) (by decide) (by decide +kernel) ?_
  refine q_newa C Rm (atype := .int) (t := 1) (N' := 32) (ty := .int) (n := 32) (.inl (fun _ => 0)) rfl aw_int (fun _ => rfl) (fun _ _ h => h) (fun _ => rfl) (by decide) (by decide +kernel) (Nat.le_of_ble_eq_true rfl) ⟨Nat.le_of_ble_eq_true rfl, Nat.le_of_ble_eq_true rfl⟩ (by decide +kernel) ?_
  refine q_putF C hin ff_12_58 hm rfl rfl (by decide +kernel) (fun h39 hm => ?_)
  refine q_aload_n C (k4 := 0) 0 rfl (by decide +kernel) ?_
  refine q_sipush C (n := 610) (v := 610) (by decide) (by decide +kernel) ?_
  refine q_newa C Rm (atype := .int) (t := 1) (N' := 610) (ty := .int) (n := 610) (.inl (fun _ => 0)) rfl aw_int (fun _ => rfl) (fun _ _ h => h) (fun _ => rfl) (by decide) (by decide +kernel) (Nat.le_of_ble_eq_true rfl) ⟨Nat.le_of_ble_eq_true rfl, Nat.le_of_ble_eq_true rfl⟩ (by decide +kernel) ?_
  refine q_putF C hin ff_12_61 hm rfl rfl (by decide +kernel) (fun h41 hm => ?_)
  refine q_aload_n C (k4 := 0) 0 rfl (by decide +kernel) ?_
  refine q_bipush C (n := 7) (v := 7) (by decide) (by decide +kernel) ?_
  refine q_newa C Rm (atype := .boolean) (t := 3) (N' := 7) (ty := .boolean) (n := 7) (.inl (fun _ => 0)) rfl aw_boolean (fun _ => rfl) (fun _ _ h => h) (fun _ => rfl) (by decide) (by decide +kernel) (Nat.le_of_ble_eq_true rfl) ⟨Nat.le_of_ble_eq_true rfl, Nat.le_of_ble_eq_true rfl⟩ (by decide +kernel) ?_
  refine q_putF C hin ff_12_64 hm rfl rfl (by decide +kernel) (fun h43 hm => ?_)
  refine q_aload_n C (k4 := 0) 0 rfl (by decide +kernel) ?_
  refine q_sipush C (n := 427) (v := 427) (by decide) (by decide +kernel) ?_
  refine q_newa C Rm (atype := .int) (t := 1) (N' := 427) (ty := .int) (n := 427) (.inl (fun _ => 0)) rfl aw_int (fun _ => rfl) (fun _ _ h => h) (fun _ => rfl) (by decide) (by decide +kernel) (Nat.le_of_ble_eq_true rfl) ⟨Nat.le_of_ble_eq_true rfl, Nat.le_of_ble_eq_true rfl⟩ (by decide +kernel) ?_
  refine q_putF C hin ff_12_68 hm rfl rfl (by decide +kernel) (fun h45 hm => ?_)
  refine q_aload_n C (k4 := 0) 0 rfl (by decide +kernel) ?_
  refine q_sipush C (n := 424) (v := 424) (by decide) (by decide +kernel) ?_
  refine q_newa C Rm (atype := .int) (t := 1) (N' := 424) (ty := .int) (n := 424) (.inl (fun _ => 0)) rfl aw_int (fun _ => rfl) (fun _ _ h => h) (fun _ => rfl) (by decide) (by decide +kernel) (Nat.le_of_ble_eq_true rfl) ⟨Nat.le_of_ble_eq_true rfl, Nat.le_of_ble_eq_true rfl⟩ (by decide +kernel) ?_
  refine q_putF C hin ff_12_71 hm rfl rfl (by decide +kernel) (fun h47 hm => ?_)
  refine q_aload_n C (k4 := 0) 0 rfl (by decide +kernel) ?_
  refine q_iconst C (n := 4) (v := 4) (by decide) (by decide +kernel) ?_
  refine q_newa C Rm (atype := .int) (t := 1) (N' := 4) (ty := .int) (n := 4) (.inl (fun _ => 0)) rfl aw_int (fun _ => rfl) (fun _ _ h => h) (fun _ => rfl) (by decide) (by decide +kernel) (Nat.le_of_ble_eq_true rfl) ⟨Nat.le_of_ble_eq_true rfl, Nat.le_of_ble_eq_true rfl⟩ (by decide +kernel) ?_
  refine q_putF C hin ff_12_74 hm rfl rfl (by decide +kernel) (fun h49 hm => ?_)
  refine q_aload_n C (k4 := 0) 0 rfl (by decide +kernel) ?_
  refine q_iconst C (n := 4) (v := 4) (by decide) (by decide +kernel) ?_
  refine q_newa C Rm (atype := .int) (t := 1) (N' := 4) (ty := .int) (n := 4) (.inl (fun _ => 0)) rfl aw_int (fun _ => rfl) (fun _ _ h => h) (fun _ => rfl) (by decide) (by decide +kernel) (Nat.le_of_ble_eq_true rfl) ⟨Nat.le_of_ble_eq_true rfl, Nat.le_of_ble_eq_true rfl⟩ (by decide +kernel) ?_
  refine q_putF C hin ff_12_77 hm rfl rfl (by decide +kernel) (fun h51 hm => ?_)
  refine q_aload_n C (k4 := 0) 0 rfl (by decide +kernel) ?_
  refine q_iconst C (n := 4) (v := 4) (by decide) (by decide +kernel) ?_
  refine q_newa C Rm (atype := .boolean) (t := 3) (N' := 4) (ty := .boolean) (n := 4) (.inl (fun _ => 0)) rfl aw_boolean (fun _ => rfl) (fun _ _ h => h) (fun _ => rfl) (by decide) (by decide +kernel) (Nat.le_of_ble_eq_true rfl) ⟨Nat.le_of_ble_eq_true rfl, Nat.le_of_ble_eq_true rfl⟩ (by decide +kernel) ?_
  refine q_putF C hin ff_12_80 hm rfl rfl (by decide +kernel) (fun h53 hm => ?_)
  exact q_rvA hm K ⟨Nat.le_of_ble_eq_true rfl, Nat.le_of_ble_eq_true rfl⟩ (by decide +kernel)
