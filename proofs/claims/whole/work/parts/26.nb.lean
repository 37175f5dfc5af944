def m_X8_init (z : Nat) (h : q_H) (a0 : Nat) (a1 : Nat) (a2 : Nat) (a3 : Nat) : Option (Nat × q_H) :=
  (q_pf h a0 8 0 (.ref a1)).bind fun h1 =>
  (q_pf h1 a0 8 1 (.ref a2)).bind fun h2 =>
  (q_pf h2 a0 8 2 (.ref a3)).bind fun h3 =>
  let h4 := va_up h3 z (.inr (10, [.int 0, .int 0, .int 0, .null, .null, .null, .null]))
  (m_X10_init (z + 1) h4 z).bind fun (z5, h6) =>
  (q_pf h6 a0 8 3 (.ref z)).bind fun h7 =>
  let h8 := va_up h7 z5 (.inr (4, [.int 0, .int 0, .int 0, .int 0, .null, .null, .null, .null]))
  (m_X4_init (z5 + 1) h8 z5).bind fun (z9, h10) =>
  (q_pf h10 a0 8 4 (.ref z5)).bind fun h11 =>
  let h12 := va_up h11 z9 (.inl (2, 61, .inr (.inl (fun _ => 0))))
  (q_pf h12 a0 8 5 (.ref z9)).bind fun h13 =>
  let h14 := q_mh h13 (z9 + 1) 7 61
  (q_pf h14 a0 8 6 (.ref (z9 + 1))).bind fun h15 =>
  let h16 := va_up h15 (z9 + 1 + 1 + 7) (.inl (1, 16, .inl (fun _ => 0)))
  (q_pf h16 a0 8 7 (.ref (z9 + 1 + 1 + 7))).bind fun h17 =>
  let h18 := va_up h17 (z9 + 1 + 1 + 7 + 1) (.inl (1, 16, .inl (fun _ => 0)))
  (q_pf h18 a0 8 8 (.ref (z9 + 1 + 1 + 7 + 1))).bind fun h19 =>
  some (z9 + 1 + 1 + 7 + 1 + 1, h19)
set_option maxRecDepth 20000 in
set_option maxHeartbeats 1000000 in
theorem c_X8_init (l : Launch) (base : Nat) (D : va_G) (tc : Nat → ClassId) (z : Nat) (h : q_H) (a0 : Nat) (a1 : Nat) (a2 : Nat) (a3 : Nat) {sz' : Nat} {h' : q_H} (hm : m_X8_init z h a0 a1 a2 a3 = some (sz', h')) : q_M l yX8_init cX8_init 4 none 4 100 21 606 base D tc [.ref a0, .ref a1, .ref a2, .ref a3] z h none sz' h' := by
  refine q_startv (by decide) (Nat.le_of_ble_eq_true rfl) (fun Γ B K => ?_)
  obtain ⟨C, Rm, -, -, -, -, hin⟩ := B
  have hin : Γ.1.2.2.2.2.2.2.2.2.1.name = "<init>" := hin
  have C : q_C Γ cX8_init RX8 := C
  show q_V Γ z 0 0 h [(0, .ref a0), (1, .ref a1), (2, .ref a2), (3, .ref a3)] [] 0
  unfold m_X8_init at hm
  refine q_aload_n C (k4 := 0) 0 rfl (by decide +kernel) ?_
  refine q_obj C Rm ml_X8_3 ob_i ob_c (by decide) (by decide +kernel) ?_
  refine q_aload_n C (k4 := 0) 0 rfl (by decide +kernel) ?_
  refine q_aload_n C (k4 := 1) 1 rfl (by decide +kernel) ?_
  refine q_putF C hin ff_8_9 hm rfl rfl (by decide +kernel) (fun h1 hm => ?_)
  refine q_aload_n C (k4 := 0) 0 rfl (by decide +kernel) ?_
  refine q_aload_n C (k4 := 2) 2 rfl (by decide +kernel) ?_
  refine q_putF C hin ff_8_15 hm rfl rfl (by decide +kernel) (fun h2 hm => ?_)
  refine q_aload_n C (k4 := 0) 0 rfl (by decide +kernel) ?_
  refine q_aload_n C (k4 := 3) 3 rfl (by decide +kernel) ?_
  refine q_putF C hin ff_8_19 hm rfl rfl (by decide +kernel) (fun h3 hm => ?_)
  refine q_aload_n C (k4 := 0) 0 rfl (by decide +kernel) ?_
  refine q_new C Rm q_FX10 [.int 0, .int 0, .int 0, .null, .null, .null, .null] df_10 cl_X8_23 in_10 ni_10 (by decide) (by decide +kernel) ?_
  refine q_dup C rfl (by decide +kernel) ?_
  refine q_inA C Rm (As := []) (rest := [.ref z, .ref a0]) Y_X10_init Yi_X10_init ml_X8_25 (by decide) ⟨Nat.le_of_ble_eq_true rfl, Nat.le_of_ble_eq_true rfl⟩ hm (fun z9 h9 e9 => c_X10_init _ _ _ _ _ _ _ e9) rfl rfl (Nat.le_of_ble_eq_true rfl) (by decide +kernel) (fun z5 h6 hm => ?_)
  refine q_putF C hin ff_8_26 hm rfl rfl (by decide +kernel) (fun h7 hm => ?_)
  refine q_aload_n C (k4 := 0) 0 rfl (by decide +kernel) ?_
  refine q_new C Rm q_FX4 [.int 0, .int 0, .int 0, .int 0, .null, .null, .null, .null] df_4 cl_X8_30 in_4 ni_4 (by decide) (by decide +kernel) ?_
  refine q_dup C rfl (by decide +kernel) ?_
  refine q_inA C Rm (As := []) (rest := [.ref z5, .ref a0]) Y_X4_init Yi_X4_init ml_X8_32 (by decide) ⟨Nat.le_of_ble_eq_true rfl, Nat.le_of_ble_eq_true rfl⟩ hm (fun z9 h9 e9 => c_X4_init _ _ _ _ _ _ _ e9) rfl rfl (Nat.le_of_ble_eq_true rfl) (by decide +kernel) (fun z9 h10 hm => ?_)
  refine q_putF C hin ff_8_33 hm rfl rfl (by decide +kernel) (fun h11 hm => ?_)
  refine q_aload_n C (k4 := 0) 0 rfl (by decide +kernel) ?_
  refine q_bipush C (n := 61) (v := 61) (by decide) (by decide +kernel) ?_
  refine q_newa C Rm (atype := .long) (t := 2) (N' := 61) (ty := .long) (n := 61) (.inr (.inl (fun _ => 0))) rfl aw_long (fun _ => rfl) (fun _ _ h => h) (fun _ => rfl) (by decide) (by decide +kernel) (Nat.le_of_ble_eq_true rfl) ⟨Nat.le_of_ble_eq_true rfl, Nat.le_of_ble_eq_true rfl⟩ (by decide +kernel) ?_
  refine q_putF C hin ff_8_37 hm rfl rfl (by decide +kernel) (fun h13 hm => ?_)
  refine q_aload_n C (k4 := 0) 0 rfl (by decide +kernel) ?_
  refine q_bipush C (n := 7) (v := 7) (by decide) (by decide +kernel) ?_
  refine q_bipush C (n := 61) (v := 61) (by decide) (by decide +kernel) ?_
  refine q_mna C Rm cl_mm aw_int (n := 7) (k := 61) 7 61 (by decide) (by decide) (by decide +kernel) (by decide +kernel) (Nat.le_of_ble_eq_true rfl) (Nat.le_of_ble_eq_true rfl) ⟨Nat.le_of_ble_eq_true rfl, Nat.le_of_ble_eq_true rfl⟩ (by decide +kernel) ?_
  refine q_putF C hin ff_8_43 hm rfl rfl (by decide +kernel) (fun h15 hm => ?_)
  refine q_aload_n C (k4 := 0) 0 rfl (by decide +kernel) ?_
  refine q_bipush C (n := 16) (v := 16) (by decide) (by decide +kernel) ?_
  refine q_newa C Rm (atype := .int) (t := 1) (N' := 16) (ty := .int) (n := 16) (.inl (fun _ => 0)) rfl aw_int (fun _ => rfl) (fun _ _ h => h) (fun _ => rfl) (by decide) (by decide +kernel) (Nat.le_of_ble_eq_true rfl) ⟨Nat.le_of_ble_eq_true rfl, Nat.le_of_ble_eq_true rfl⟩ (by decide +kernel) ?_
  refine q_putF C hin ff_8_46 hm rfl rfl (by decide +kernel) (fun h17 hm => ?_)
  refine q_aload_n C (k4 := 0) 0 rfl (by decide +kernel) ?_
  refine q_bipush C (n := 16) (v := 16) (by decide) (by decide +kernel) ?_
  refine q_newa C Rm (atype := .int) (t := 1) (N' := 16) (ty := .int) (n := 16) (.inl (fun _ => 0)) rfl aw_int (fun _ => rfl) (fun _ _ h => h) (fun _ => rfl) (by decide) (by decide +kernel) (Nat.le_of_ble_eq_true rfl) ⟨Nat.le_of_ble_eq_true rfl, Nat.le_of_ble_eq_true rfl⟩ (by decide +kernel) ?_
  refine q_putF C hin ff_8_50 hm rfl rfl (by decide +kernel) (fun h19 hm => ?_)
  exact q_rvA hm K ⟨Nat.le_of_ble_eq_true rfl, Nat.le_of_ble_eq_true rfl⟩ (by decide +kernel)
def m_X11_init (z : Nat) (h : q_H) (a0 : Nat) : Option (Nat × q_H) :=
  let h1 := va_up h z (.inr (9, [.null, .int 0]))
  (m_X9_init (z + 1) h1 z).bind fun (z2, h3) =>
  (q_pf h3 a0 11 0 (.ref z)).bind fun h4 =>
  let h5 := va_up h4 z2 (.inr (3, [.null, .null, .null, .null, .int 0, .int 0, .int 0, .int 0, .int 0]))
  (q_gn h5 a0 11 0).bind fun v6 =>
  (m_X3_init (z2 + 1) h5 z2 v6).bind fun (z7, h8) =>
  let h9 := va_up h8 z7 (.inr (5, [.null, .int 0]))
  (m_X5_init h9 z7 z2).bind fun h10 =>
  (q_pf h10 a0 11 1 (.ref z7)).bind fun h11 =>
  let h12 := va_up h11 (z7 + 1) (.inr (7, [.null, .null, .int 0, .null, .int 0, .null, .int 0, .int 0, .int 0]))
  (m_X7_init (z7 + 1 + 1) h12 (z7 + 1) z2).bind fun (z13, h14) =>
  (q_pf h14 a0 11 2 (.ref (z7 + 1))).bind fun h15 =>
  let h16 := va_up h15 z13 (.inl (5, 6, .inr (.inr (.inr (.inr (fun _ => none))))))
  (q_pf h16 a0 11 3 (.ref z13)).bind fun h17 =>
  (q_pf h17 a0 11 4 (.int ((0 : Int32)))).bind fun h18 =>
  let h19 := va_up h18 (z13 + 1) (.inr (0, [.null, .null, .int 0, .int 0, .int 0, .null, .null]))
  (m_X0_init (z13 + 1 + 1) h19 (z13 + 1)).bind fun (z20, h21) =>
  (q_pf h21 a0 11 5 (.ref (z13 + 1))).bind fun h22 =>
  let h23 := va_up h22 z20 (.inr (2, [.null, .int 0, .int 0]))
  (m_X2_init (z20 + 1) h23 z20).bind fun (z24, h25) =>
  (q_pf h25 a0 11 6 (.ref z20)).bind fun h26 =>
  let h27 := va_up h26 z24 (.inl (4, 4, .inr (.inr (.inr (.inr (fun _ => none))))))
  (q_pf h27 a0 11 7 (.ref z24)).bind fun h28 =>
  let h29 := va_up h28 (z24 + 1) (.inr (1, [.null, .null, .null, .null, .null, .null, .null]))
  (m_X1_init (z24 + 1 + 1) h29 (z24 + 1)).bind fun (z30, h31) =>
  (q_pf h31 a0 11 8 (.ref (z24 + 1))).bind fun h32 =>
  let h33 := va_up h32 z30 (.inr (8, [.null, .null, .null, .null, .null, .null, .null, .null, .null]))
  (q_gn h33 a0 11 5).bind fun v34 =>
  (q_gn h33 a0 11 3).bind fun v35 =>
  (q_gn h33 a0 11 8).bind fun v36 =>
  (m_X8_init (z30 + 1) h33 z30 v34 v35 v36).bind fun (z37, h38) =>
  (q_pf h38 a0 11 9 (.ref z30)).bind fun h39 =>
  some (z37, h39)
set_option maxRecDepth 20000 in
set_option maxHeartbeats 1000000 in
theorem c_X11_init (l : Launch) (base : Nat) (D : va_G) (tc : Nat → ClassId) (z : Nat) (h : q_H) (a0 : Nat) {sz' : Nat} {h' : q_H} (hm : m_X11_init z h a0 = some (sz', h')) : q_M l yX11_init cX11_init 2 none 5 123 151 3684 base D tc [.ref a0] z h none sz' h' := by
  refine q_startv (by decide) (Nat.le_of_ble_eq_true rfl) (fun Γ B K => ?_)
  obtain ⟨C, Rm, -, -, -, -, hin⟩ := B
  have hin : Γ.1.2.2.2.2.2.2.2.2.1.name = "<init>" := hin
  have C : q_C Γ cX11_init RX11 := C
  show q_V Γ z 0 0 h [(0, .ref a0)] [] 0
  unfold m_X11_init at hm
  refine q_aload_n C (k4 := 0) 0 rfl (by decide +kernel) ?_
  refine q_obj C Rm ml_X11_1 ob_i ob_c (by decide) (by decide +kernel) ?_
  refine q_aload_n C (k4 := 0) 0 rfl (by decide +kernel) ?_
  refine q_new C Rm q_FX9 [.null, .int 0] df_9 cl_X11_7 in_9 ni_9 (by decide) (by decide +kernel) ?_
  refine q_dup C rfl (by decide +kernel) ?_
  refine q_inA C Rm (As := []) (rest := [.ref z, .ref a0]) Y_X9_init Yi_X9_init ml_X11_9 (by decide) ⟨Nat.le_of_ble_eq_true rfl, Nat.le_of_ble_eq_true rfl⟩ hm (fun z9 h9 e9 => c_X9_init _ _ _ _ _ _ _ e9) rfl rfl (Nat.le_of_ble_eq_true rfl) (by decide +kernel) (fun z2 h3 hm => ?_)
  refine q_putF C hin ff_11_10 hm rfl rfl (by decide +kernel) (fun h4 hm => ?_)
  refine q_new C Rm q_FX3 [.null, .null, .null, .null, .int 0, .int 0, .int 0, .int 0, .int 0] df_3 cl_X11_16 in_3 ni_3 (by decide) (by decide +kernel) ?_
  refine q_dup C rfl (by decide +kernel) ?_
  refine q_aload_n C (k4 := 0) 0 rfl (by decide +kernel) ?_
  refine q_getn C fl_11_10 hm (by decide +kernel) (fun v6 hm => ?_)
  refine q_inA C Rm (As := [.ref v6]) (rest := [.ref z2]) Y_X3_init Yi_X3_init ml_X11_18 (by decide) ⟨Nat.le_of_ble_eq_true rfl, Nat.le_of_ble_eq_true rfl⟩ hm (fun z9 h9 e9 => c_X3_init _ _ _ _ _ _ _ _ e9) rfl rfl (Nat.le_of_ble_eq_true rfl) (by decide +kernel) (fun z7 h8 hm => ?_)
  refine q_astore_n C Rm.1 (k4 := 1) (i := 1) rfl (lv' := [(1, .ref z2), (0, .ref a0)]) rfl (by decide) (by decide +kernel) ?_
  refine q_aload_n C (k4 := 0) 1 rfl (by decide +kernel) ?_
  refine q_new C Rm q_FX5 [.null, .int 0] df_5 cl_X11_21 in_5 ni_5 (by decide) (by decide +kernel) ?_
  refine q_dup C rfl (by decide +kernel) ?_
  refine q_aload_n C (k4 := 1) 0 rfl (by decide +kernel) ?_
  refine q_inS C Rm (As := [.ref z2]) (rest := [.ref z7, .ref a0]) Y_X5_init Yi_X5_init ml_X11_23 (by decide) ⟨Nat.le_of_ble_eq_true rfl, Nat.le_of_ble_eq_true rfl⟩ hm (fun h9 e9 => c_X5_init _ _ _ _ _ _ _ _ e9) rfl rfl (Nat.le_of_ble_eq_true rfl) (by decide +kernel) (fun h10 hm => ?_)
  refine q_putF C hin ff_11_26 hm rfl rfl (by decide +kernel) (fun h11 hm => ?_)
  refine q_aload_n C (k4 := 0) 1 rfl (by decide +kernel) ?_
  refine q_new C Rm q_FX7 [.null, .null, .int 0, .null, .int 0, .null, .int 0, .int 0, .int 0] df_7 cl_X11_30 in_7 ni_7 (by decide) (by decide +kernel) ?_
  refine q_dup C rfl (by decide +kernel) ?_
  refine q_aload_n C (k4 := 1) 0 rfl (by decide +kernel) ?_
  refine q_inA C Rm (As := [.ref z2]) (rest := [.ref (z7 + 1), .ref a0]) Y_X7_init Yi_X7_init ml_X11_32 (by decide) ⟨Nat.le_of_ble_eq_true rfl, Nat.le_of_ble_eq_true rfl⟩ hm (fun z9 h9 e9 => c_X7_init _ _ _ _ _ _ _ _ e9) rfl rfl (Nat.le_of_ble_eq_true rfl) (by decide +kernel) (fun z13 h14 hm => ?_)
  refine q_putF C hin ff_11_33 hm rfl rfl (by decide +kernel) (fun h15 hm => ?_)
  refine q_aload_n C (k4 := 0) 1 rfl (by decide +kernel) ?_
  refine q_bipush C (n := 6) (v := 6) (by decide) (by decide +kernel) ?_
  refine q_newr C Rm (t := 5) (N' := 6) (Cn := "TugRope$Rule") (n := 6) cl_X11_37 (q_aoR C) (fun _ => rfl) (by decide) (by decide) (by decide) ⟨Nat.le_of_ble_eq_true rfl, Nat.le_of_ble_eq_true rfl⟩ (by decide +kernel) ?_
  refine q_putF C hin ff_11_39 hm rfl rfl (by decide +kernel) (fun h17 hm => ?_)
  refine q_aload_n C (k4 := 0) 1 rfl (by decide +kernel) ?_
  refine q_iconst C (n := 0) (v := 0) (by decide) (by decide +kernel) ?_
  refine q_putf C fl_11_43 hm rfl rfl (by decide +kernel) (fun h18 hm => ?_)
  refine q_aload_n C (k4 := 0) 1 rfl (by decide +kernel) ?_
  refine q_new C Rm q_FX0 [.null, .null, .int 0, .int 0, .int 0, .null, .null] df_0 cl_X11_47 in_0 ni_0 (by decide) (by decide +kernel) ?_
  refine q_dup C rfl (by decide +kernel) ?_
  refine q_inA C Rm (As := []) (rest := [.ref (z13 + 1), .ref a0]) Y_X0_init Yi_X0_init ml_X11_49 (by decide) ⟨Nat.le_of_ble_eq_true rfl, Nat.le_of_ble_eq_true rfl⟩ hm (fun z9 h9 e9 => c_X0_init _ _ _ _ _ _ _ e9) rfl rfl (Nat.le_of_ble_eq_true rfl) (by decide +kernel) (fun z20 h21 hm => ?_)
  refine q_putF C hin ff_11_50 hm rfl rfl (by decide +kernel) (fun h22 hm => ?_)
  refine q_aload_n C (k4 := 0) 1 rfl (by decide +kernel) ?_
  refine q_new C Rm q_FX2 [.null, .int 0, .int 0] df_2 cl_X11_54 in_2 ni_2 (by decide) (by decide +kernel) ?_
  refine q_dup C rfl (by decide +kernel) ?_
  refine q_inA C Rm (As := []) (rest := [.ref z20, .ref a0]) Y_X2_init Yi_X2_init ml_X11_56 (by decide) ⟨Nat.le_of_ble_eq_true rfl, Nat.le_of_ble_eq_true rfl⟩ hm (fun z9 h9 e9 => c_X2_init _ _ _ _ _ _ _ e9) rfl rfl (Nat.le_of_ble_eq_true rfl) (by decide +kernel) (fun z24 h25 hm => ?_)
  refine q_putF C hin ff_11_57 hm rfl rfl (by decide +kernel) (fun h26 hm => ?_)
  refine q_aload_n C (k4 := 0) 1 rfl (by decide +kernel) ?_
  refine q_iconst C (n := 4) (v := 4) (by decide) (by decide +kernel) ?_
  refine q_newr C Rm (t := 4) (N' := 4) (Cn := "TugRope$Game") (n := 4) cl_X11_47 (q_aoG C) (fun _ => rfl) (by decide) (by decide) (by decide) ⟨Nat.le_of_ble_eq_true rfl, Nat.le_of_ble_eq_true rfl⟩ (by decide +kernel) ?_
  refine q_putF C hin ff_11_61 hm rfl rfl (by decide +kernel) (fun h28 hm => ?_)
  refine q_aload_n C (k4 := 0) 1 rfl (by decide +kernel) ?_
  refine q_new C Rm q_FX1 [.null, .null, .null, .null, .null, .null, .null] df_1 cl_X11_65 in_1 ni_1 (by decide) (by decide +kernel) ?_
  refine q_dup C rfl (by decide +kernel) ?_
  refine q_inA C Rm (As := []) (rest := [.ref (z24 + 1), .ref a0]) Y_X1_init Yi_X1_init ml_X11_67 (by decide) ⟨Nat.le_of_ble_eq_true rfl, Nat.le_of_ble_eq_true rfl⟩ hm (fun z9 h9 e9 => c_X1_init _ _ _ _ _ _ _ e9) rfl rfl (Nat.le_of_ble_eq_true rfl) (by decide +kernel) (fun z30 h31 hm => ?_)
  refine q_putF C hin ff_11_68 hm rfl rfl (by decide +kernel) (fun h32 hm => ?_)
  refine q_aload_n C (k4 := 0) 1 rfl (by decide +kernel) ?_
  refine q_new C Rm q_FX8 [.null, .null, .null, .null, .null, .null, .null, .null, .null] df_8 cl_X11_72 in_8 ni_8 (by decide) (by decide +kernel) ?_
  refine q_dup C rfl (by decide +kernel) ?_
  refine q_aload_n C (k4 := 0) 1 rfl (by decide +kernel) ?_
  refine q_getn C fl_11_50 hm (by decide +kernel) (fun v34 hm => ?_)
  refine q_aload_n C (k4 := 0) 1 rfl (by decide +kernel) ?_
  refine q_getn C fl_11_39 hm (by decide +kernel) (fun v35 hm => ?_)
  refine q_aload_n C (k4 := 0) 1 rfl (by decide +kernel) ?_
  refine q_getn C fl_11_68 hm (by decide +kernel) (fun v36 hm => ?_)
  refine q_inA C Rm (As := [.ref v34, .ref v35, .ref v36]) (rest := [.ref z30, .ref a0]) Y_X8_init Yi_X8_init ml_X11_74 (by decide) ⟨Nat.le_of_ble_eq_true rfl, Nat.le_of_ble_eq_true rfl⟩ hm (fun z9 h9 e9 => c_X8_init _ _ _ _ _ _ _ _ _ _ e9) rfl rfl (Nat.le_of_ble_eq_true rfl) (by decide +kernel) (fun z37 h38 hm => ?_)
  refine q_putF C hin ff_11_77 hm rfl rfl (by decide +kernel) (fun h39 hm => ?_)
  exact q_rvA hm K ⟨Nat.le_of_ble_eq_true rfl, Nat.le_of_ble_eq_true rfl⟩ (by decide +kernel)
