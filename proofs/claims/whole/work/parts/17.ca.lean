def m_X10_copyFrom (h : q_H) (a0 : Nat) (a1 : Nat) : Option q_H :=
  (q_gi h a1 10 0).bind fun v1 =>
  (q_pf h a0 10 0 (.int v1)).bind fun h2 =>
  (q_gi h2 a1 10 1).bind fun v3 =>
  (q_pf h2 a0 10 1 (.int v3)).bind fun h4 =>
  (q_gi h4 a1 10 2).bind fun v5 =>
  (q_pf h4 a0 10 2 (.int v5)).bind fun h6 =>
  (q_gn h6 a1 10 3).bind fun v7 =>
  (q_gn h6 a0 10 3).bind fun v8 =>
  (q_cp h6 v7 ((0 : Int32)) v8 ((0 : Int32)) ((8 : Int32))).bind fun h9 =>
  (q_gn h9 a1 10 4).bind fun v10 =>
  (q_gn h9 a0 10 4).bind fun v11 =>
  (q_cp h9 v10 ((0 : Int32)) v11 ((0 : Int32)) ((8 : Int32))).bind fun h12 =>
  (q_gn h12 a1 10 5).bind fun v13 =>
  (q_gn h12 a0 10 5).bind fun v14 =>
  (q_cp h12 v13 ((0 : Int32)) v14 ((0 : Int32)) ((8 : Int32))).bind fun h15 =>
  (q_gn h15 a1 10 6).bind fun v16 =>
  (q_gn h15 a0 10 6).bind fun v17 =>
  (q_cp h15 v16 ((0 : Int32)) v17 ((0 : Int32)) ((8 : Int32))).bind fun h18 =>
  some h18
set_option maxRecDepth 20000 in
set_option maxHeartbeats 1000000 in
theorem c_X10_copyFrom (l : Launch) (base : Nat) (D : va_G) (tc : Nat → ClassId) (sz : Nat) (h : q_H) (a0 : Nat) (a1 : Nat) {h' : q_H} (hm : m_X10_copyFrom h a0 a1 = some h') : q_M l yX10_copyFrom cX10_copyFrom 2 none 3 80 0 0 base D tc [.ref a0, .ref a1] sz h none sz h' := by
  refine q_startv (by decide) (Nat.le_of_ble_eq_true rfl) (fun Γ B K => ?_)
  obtain ⟨C, Rm, -⟩ := B
  have C : q_C Γ cX10_copyFrom RX10 := C
  show q_V Γ sz 0 0 h [(0, .ref a0), (1, .ref a1)] [] 0
  unfold m_X10_copyFrom at hm
  refine q_aload_n C (k4 := 0) 0 rfl (by decide +kernel) ?_
  refine q_aload_n C (k4 := 1) 1 rfl (by decide +kernel) ?_
  refine q_geti C fl_10_30 hm (by decide +kernel) (fun v1 hm => ?_)
  refine q_putf C fl_10_30 hm rfl rfl (by decide +kernel) (fun h2 hm => ?_)
  refine q_aload_n C (k4 := 0) 0 rfl (by decide +kernel) ?_
  refine q_aload_n C (k4 := 1) 1 rfl (by decide +kernel) ?_
  refine q_geti C fl_10_31 hm (by decide +kernel) (fun v3 hm => ?_)
  refine q_putf C fl_10_31 hm rfl rfl (by decide +kernel) (fun h4 hm => ?_)
  refine q_aload_n C (k4 := 0) 0 rfl (by decide +kernel) ?_
  refine q_aload_n C (k4 := 1) 1 rfl (by decide +kernel) ?_
  refine q_geti C fl_10_38 hm (by decide +kernel) (fun v5 hm => ?_)
  refine q_putf C fl_10_38 hm rfl rfl (by decide +kernel) (fun h6 hm => ?_)
  refine q_aload_n C (k4 := 1) 1 rfl (by decide +kernel) ?_
  refine q_getn C fl_10_9 hm (by decide +kernel) (fun v7 hm => ?_)
  refine q_iconst C (n := 0) (v := 0) (by decide) (by decide +kernel) ?_
  refine q_aload_n C (k4 := 0) 0 rfl (by decide +kernel) ?_
  refine q_getn C fl_10_9 hm (by decide +kernel) (fun v8 hm => ?_)
  refine q_iconst C (n := 0) (v := 0) (by decide) (by decide +kernel) ?_
  refine q_bipush C (n := 8) (v := 8) (by decide) (by decide +kernel) ?_
  refine q_copy C Rm ml_X10_46 cp_nat cp_stat cp_ini hm (by decide) (Nat.le_of_ble_eq_true rfl) (by decide +kernel) (fun h9 hm => ?_)
  refine q_aload_n C (k4 := 1) 1 rfl (by decide +kernel) ?_
  refine q_getn C fl_10_15 hm (by decide +kernel) (fun v10 hm => ?_)
  refine q_iconst C (n := 0) (v := 0) (by decide) (by decide +kernel) ?_
  refine q_aload_n C (k4 := 0) 0 rfl (by decide +kernel) ?_
  refine q_getn C fl_10_15 hm (by decide +kernel) (fun v11 hm => ?_)
  refine q_iconst C (n := 0) (v := 0) (by decide) (by decide +kernel) ?_
  refine q_bipush C (n := 8) (v := 8) (by decide) (by decide +kernel) ?_
  refine q_copy C Rm ml_X10_46 cp_nat cp_stat cp_ini hm (by decide) (Nat.le_of_ble_eq_true rfl) (by decide +kernel) (fun h12 hm => ?_)
  refine q_aload_n C (k4 := 1) 1 rfl (by decide +kernel) ?_
  refine q_getn C fl_10_18 hm (by decide +kernel) (fun v13 hm => ?_)
  refine q_iconst C (n := 0) (v := 0) (by decide) (by decide +kernel) ?_
  refine q_aload_n C (k4 := 0) 0 rfl (by decide +kernel) ?_
  refine q_getn C fl_10_18 hm (by decide +kernel) (fun v14 hm => ?_)
  refine q_iconst C (n := 0) (v := 0) (by decide) (by decide +kernel) ?_
  refine q_bipush C (n := 8) (v := 8) (by decide) (by decide +kernel) ?_
  refine q_copy C Rm ml_X10_46 cp_nat cp_stat cp_ini hm (by decide) (Nat.le_of_ble_eq_true rfl) (by decide +kernel) (fun h15 hm => ?_)
  refine q_aload_n C (k4 := 1) 1 rfl (by decide +kernel) ?_
  refine q_getn C fl_10_21 hm (by decide +kernel) (fun v16 hm => ?_)
  refine q_iconst C (n := 0) (v := 0) (by decide) (by decide +kernel) ?_
  refine q_aload_n C (k4 := 0) 0 rfl (by decide +kernel) ?_
  refine q_getn C fl_10_21 hm (by decide +kernel) (fun v17 hm => ?_)
  refine q_iconst C (n := 0) (v := 0) (by decide) (by decide +kernel) ?_
  refine q_bipush C (n := 8) (v := 8) (by decide) (by decide +kernel) ?_
  refine q_copy C Rm ml_X10_46 cp_nat cp_stat cp_ini hm (by decide) (Nat.le_of_ble_eq_true rfl) (by decide +kernel) (fun h18 hm => ?_)
  exact q_rvS hm K (by decide +kernel)
def m_X0_copyFrom (h : q_H) (a0 : Nat) (a1 : Nat) : Option q_H :=
  (q_go h a1 0 0).bind fun v1 =>
  (q_pf h a0 0 0 (va_rf v1)).bind fun h2 =>
  (q_gn h2 a0 0 1).bind fun v3 =>
  (q_gn h2 a1 0 1).bind fun v4 =>
  (q_ca 10 h2 v3 (m_X10_copyFrom h2 v3 v4)).bind fun h6 =>
  (q_gi h6 a1 0 2).bind fun v7 =>
  (q_pf h6 a0 0 2 (.int v7)).bind fun h8 =>
  (q_gi h8 a1 0 3).bind fun v9 =>
  (q_pf h8 a0 0 3 (.int v9)).bind fun h10 =>
  (q_gi h10 a1 0 4).bind fun v11 =>
  (q_pf h10 a0 0 4 (.int v11)).bind fun h12 =>
  (q_gn h12 a1 0 5).bind fun v13 =>
  (q_gn h12 a0 0 5).bind fun v14 =>
  (q_cp h12 v13 ((0 : Int32)) v14 ((0 : Int32)) ((10 : Int32))).bind fun h15 =>
  (q_gn h15 a1 0 6).bind fun v16 =>
  (q_gn h15 a0 0 6).bind fun v17 =>
  (q_cp h15 v16 ((0 : Int32)) v17 ((0 : Int32)) ((10 : Int32))).bind fun h18 =>
  some h18
set_option maxRecDepth 20000 in
set_option maxHeartbeats 1000000 in
theorem c_X0_copyFrom (l : Launch) (base : Nat) (D : va_G) (tc : Nat → ClassId) (sz : Nat) (h : q_H) (a0 : Nat) (a1 : Nat) {h' : q_H} (hm : m_X0_copyFrom h a0 a1 = some h') : q_M l yX0_copyFrom cX0_copyFrom 2 none 4 101 0 0 base D tc [.ref a0, .ref a1] sz h none sz h' := by
  refine q_startv (by decide) (Nat.le_of_ble_eq_true rfl) (fun Γ B K => ?_)
  obtain ⟨C, Rm, -⟩ := B
  have C : q_C Γ cX0_copyFrom RX0 := C
  show q_V Γ sz 0 0 h [(0, .ref a0), (1, .ref a1)] [] 0
  unfold m_X0_copyFrom at hm
  refine q_aload_n C (k4 := 0) 0 rfl (by decide +kernel) ?_
  refine q_aload_n C (k4 := 1) 1 rfl (by decide +kernel) ?_
  refine q_geto C fl_0_29 hm (by decide +kernel) (fun v1 hm => ?_)
  refine q_putf C fl_0_29 hm (q_no_n _) (q_no_f _) (by decide +kernel) (fun h2 hm => ?_)
  refine q_aload_n C (k4 := 0) 0 rfl (by decide +kernel) ?_
  refine q_getn C fl_0_12 hm (by decide +kernel) (fun v3 hm => ?_)
  refine q_aload_n C (k4 := 1) 1 rfl (by decide +kernel) ?_
  refine q_getn C fl_0_12 hm (by decide +kernel) (fun v4 hm => ?_)
  refine q_vvS C Rm (As := [.ref v4]) (rest := []) Y_X10_copyFrom Yv_X10_copyFrom ml_X0_33 (by decide) (by decide) hm (fun h6 e9 => c_X10_copyFrom _ _ _ _ _ _ _ _ e9) rfl rfl (Nat.le_of_ble_eq_true rfl) (by decide +kernel) (fun h6 hm => ?_)
  refine q_aload_n C (k4 := 0) 0 rfl (by decide +kernel) ?_
  refine q_aload_n C (k4 := 1) 1 rfl (by decide +kernel) ?_
  refine q_geti C fl_0_18 hm (by decide +kernel) (fun v7 hm => ?_)
  refine q_putf C fl_0_18 hm rfl rfl (by decide +kernel) (fun h8 hm => ?_)
  refine q_aload_n C (k4 := 0) 0 rfl (by decide +kernel) ?_
  refine q_aload_n C (k4 := 1) 1 rfl (by decide +kernel) ?_
  refine q_geti C fl_0_37 hm (by decide +kernel) (fun v9 hm => ?_)
  refine q_putf C fl_0_37 hm rfl rfl (by decide +kernel) (fun h10 hm => ?_)
  refine q_aload_n C (k4 := 0) 0 rfl (by decide +kernel) ?_
  refine q_aload_n C (k4 := 1) 1 rfl (by decide +kernel) ?_
  refine q_geti C fl_0_40 hm (by decide +kernel) (fun v11 hm => ?_)
  refine q_putf C fl_0_40 hm rfl rfl (by decide +kernel) (fun h12 hm => ?_)
  refine q_aload_n C (k4 := 1) 1 rfl (by decide +kernel) ?_
  refine q_getn C fl_0_22 hm (by decide +kernel) (fun v13 hm => ?_)
  refine q_iconst C (n := 0) (v := 0) (by decide) (by decide +kernel) ?_
  refine q_aload_n C (k4 := 0) 0 rfl (by decide +kernel) ?_
  refine q_getn C fl_0_22 hm (by decide +kernel) (fun v14 hm => ?_)
  refine q_iconst C (n := 0) (v := 0) (by decide) (by decide +kernel) ?_
  refine q_bipush C (n := 10) (v := 10) (by decide) (by decide +kernel) ?_
  refine q_copy C Rm ml_X0_43 cp_nat cp_stat cp_ini hm (by decide) (Nat.le_of_ble_eq_true rfl) (by decide +kernel) (fun h15 hm => ?_)
  refine q_aload_n C (k4 := 1) 1 rfl (by decide +kernel) ?_
  refine q_getn C fl_0_26 hm (by decide +kernel) (fun v16 hm => ?_)
  refine q_iconst C (n := 0) (v := 0) (by decide) (by decide +kernel) ?_
  refine q_aload_n C (k4 := 0) 0 rfl (by decide +kernel) ?_
  refine q_getn C fl_0_26 hm (by decide +kernel) (fun v17 hm => ?_)
  refine q_iconst C (n := 0) (v := 0) (by decide) (by decide +kernel) ?_
  refine q_bipush C (n := 10) (v := 10) (by decide) (by decide +kernel) ?_
  refine q_copy C Rm ml_X0_43 cp_nat cp_stat cp_ini hm (by decide) (Nat.le_of_ble_eq_true rfl) (by decide +kernel) (fun h18 hm => ?_)
  exact q_rvS hm K (by decide +kernel)
def m_X0_pullers (h0 : q_H) (a0 : Nat) : Option Int32 :=
  (q_go h0 a0 0 0).bind fun v1 =>
  if v1 = none then
    some ((0 : Int32))
  else
    (q_gn h0 a0 0 0).bind fun v2 =>
    (q_gi h0 v2 4 3).bind fun v3 =>
    some v3
set_option maxRecDepth 20000 in
set_option maxHeartbeats 1000000 in
theorem c_X0_pullers (l : Launch) (base : Nat) (D : va_G) (tc : Nat → ClassId) (sz : Nat) (h0 : q_H) (a0 : Nat) {r : Int32} (hm : m_X0_pullers h0 a0 = some r) : q_M l yX0_pullers cX0_pullers 1 (some .int) 0 0 0 0 base D tc [.ref a0] sz h0 (some (.int r)) sz h0 := by
  refine q_starti (by decide) (Nat.le_of_ble_eq_true rfl) (fun Γ B K => ?_)
  obtain ⟨C, Rm, -⟩ := B
  have C : q_C Γ cX0_pullers RX0 := C
  show q_V Γ sz 0 0 h0 [(0, .ref a0)] [] 0
  unfold m_X0_pullers at hm
  refine q_aload_n C (k4 := 0) 0 rfl (by decide +kernel) ?_
  refine q_geto C fl_0_29 hm (by decide +kernel) (fun v1 hm => ?_)
  refine q_ifnonnull C (off := 7) 11 hm (by decide +kernel) (by decide) (fun _ hm => ?_) (fun _ hm => ?_)
  · refine q_aload_n C (k4 := 0) 0 rfl (by decide +kernel) ?_
    refine q_getn C fl_0_29 hm (by decide +kernel) (fun v2 hm => ?_)
    refine q_geti C fl_0_49 hm (by decide +kernel) (fun v3 hm => ?_)
    exact q_riP hm K rfl (by decide +kernel)
  · refine q_iconst C (n := 0) (v := 0) (by decide) (by decide +kernel) ?_
    refine q_goto C (off := 10) 18 (by decide +kernel) (by decide) ?_
    exact q_riP hm K rfl (by decide +kernel)
def m_X0_has (h0 : q_H) (a0 : Nat) (a1 : Int32) : Option Int32 :=
  if a1 < 0 then
    some ((0 : Int32))
  else
    (q_ca 0 h0 a0 (m_X0_pullers h0 a0)).bind fun r1 =>
    if r1 ≤ a1 then
      some ((0 : Int32))
    else
      some ((1 : Int32))
set_option maxRecDepth 20000 in
set_option maxHeartbeats 1000000 in
theorem c_X0_has (l : Launch) (base : Nat) (D : va_G) (tc : Nat → ClassId) (sz : Nat) (h0 : q_H) (a0 : Nat) (a1 : Int32) {r : Int32} (hm : m_X0_has h0 a0 a1 = some r) : q_M l yX0_has cX0_has 2 (some .boolean) 1 20 0 0 base D tc [.ref a0, .int a1] sz h0 (some (.int r)) sz h0 := by
  refine q_starti (by decide) (Nat.le_of_ble_eq_true rfl) (fun Γ B K => ?_)
  obtain ⟨C, Rm, -⟩ := B
  have C : q_C Γ cX0_has RX0 := C
  show q_V Γ sz 0 0 h0 [(0, .ref a0), (1, .int a1)] [] 0
  unfold m_X0_has at hm
  refine q_iload_n C (k4 := 1) 1 rfl (by decide +kernel) ?_
  refine q_if_lt C (off := 15) 16 hm (by decide +kernel) (by decide) (fun _ hm => ?_) (fun _ hm => ?_)
  · refine q_iconst C (n := 0) (v := 0) (by decide) (by decide +kernel) ?_
    exact q_riP hm K q_z0 (by decide +kernel)
  · refine q_iload_n C (k4 := 1) 1 rfl (by decide +kernel) ?_
    refine q_aload_n C (k4 := 0) 0 rfl (by decide +kernel) ?_
    refine q_viP C Rm (As := []) (rest := [.int a1]) Y_X0_pullers Yv_X0_pullers ml_X0_54 (by decide) (by decide) hm (fun r9 e9 => c_X0_pullers _ _ _ _ _ _ _ e9) rfl rfl (Nat.le_of_ble_eq_true rfl) (by decide +kernel) (fun r1 hm z2 => ?_)
    refine q_icmp_ge C (off := 7) 16 hm (by decide +kernel) (by decide) (fun _ hm => ?_) (fun _ hm => ?_)
    · refine q_iconst C (n := 0) (v := 0) (by decide) (by decide +kernel) ?_
      exact q_riP hm K q_z0 (by decide +kernel)
    · refine q_iconst C (n := 1) (v := 1) (by decide) (by decide +kernel) ?_
      refine q_goto C (off := 4) 17 (by decide +kernel) (by decide) ?_
      exact q_riP hm K q_z1 (by decide +kernel)
def m_X0_addNote (h : q_H) (a0 : Nat) (a1 : Int32) (a2 : Int32) : Option q_H :=
  (q_gi h a0 0 4).bind fun v1 =>
  if (10 : Int32) ≤ v1 then
    some h
  else
    (q_gn h a0 0 5).bind fun v2 =>
    (q_gi h a0 0 4).bind fun v3 =>
    (q_si h v2 1 v3 a1).bind fun h4 =>
    (q_gn h4 a0 0 6).bind fun v5 =>
    (q_gi h4 a0 0 4).bind fun v6 =>
    (q_si h4 v5 1 v6 a2).bind fun h7 =>
    (q_gi h7 a0 0 4).bind fun v8 =>
    (q_pf h7 a0 0 4 (.int ((v8 + (1 : Int32))))).bind fun h9 =>
    some h9
set_option maxRecDepth 20000 in
set_option maxHeartbeats 1000000 in
theorem c_X0_addNote (l : Launch) (base : Nat) (D : va_G) (tc : Nat → ClassId) (sz : Nat) (h : q_H) (a0 : Nat) (a1 : Int32) (a2 : Int32) {h' : q_H} (hm : m_X0_addNote h a0 a1 a2 = some h') : q_M l yX0_addNote cX0_addNote 3 none 0 0 0 0 base D tc [.ref a0, .int a1, .int a2] sz h none sz h' := by
  refine q_startv (by decide) (Nat.le_of_ble_eq_true rfl) (fun Γ B K => ?_)
  obtain ⟨C, Rm, -⟩ := B
  have C : q_C Γ cX0_addNote RX0 := C
  show q_V Γ sz 0 0 h [(0, .ref a0), (1, .int a1), (2, .int a2)] [] 0
  unfold m_X0_addNote at hm
  refine q_aload_n C (k4 := 0) 0 rfl (by decide +kernel) ?_
  refine q_geti C fl_0_40 hm (by decide +kernel) (fun v1 hm => ?_)
  refine q_bipush C (n := 10) (v := 10) (by decide) (by decide +kernel) ?_
  refine q_icmp_ge C (off := 33) 39 hm (by decide +kernel) (by decide) (fun _ hm => ?_) (fun _ hm => ?_)
  · exact q_rvS hm K (by decide +kernel)
  · refine q_aload_n C (k4 := 0) 0 rfl (by decide +kernel) ?_
    refine q_getn C fl_0_22 hm (by decide +kernel) (fun v2 hm => ?_)
    refine q_aload_n C (k4 := 0) 0 rfl (by decide +kernel) ?_
    refine q_geti C fl_0_40 hm (by decide +kernel) (fun v3 hm => ?_)
    refine q_iload_n C (k4 := 1) 1 rfl (by decide +kernel) ?_
    refine q_iw C hm (by decide +kernel) (fun h4 hm => ?_)
    refine q_aload_n C (k4 := 0) 0 rfl (by decide +kernel) ?_
    refine q_getn C fl_0_26 hm (by decide +kernel) (fun v5 hm => ?_)
    refine q_aload_n C (k4 := 0) 0 rfl (by decide +kernel) ?_
    refine q_geti C fl_0_40 hm (by decide +kernel) (fun v6 hm => ?_)
    refine q_iload_n C (k4 := 2) 2 rfl (by decide +kernel) ?_
    refine q_iw C hm (by decide +kernel) (fun h7 hm => ?_)
    refine q_aload_n C (k4 := 0) 0 rfl (by decide +kernel) ?_
    refine q_dup C rfl (by decide +kernel) ?_
    refine q_geti C fl_0_40 hm (by decide +kernel) (fun v8 hm => ?_)
    refine q_iconst C (n := 1) (v := 1) (by decide) (by decide +kernel) ?_
    refine q_iadd C (by decide +kernel) ?_
    refine q_putf C fl_0_40 hm rfl rfl (by decide +kernel) (fun h9 hm => ?_)
    exact q_rvS hm K (by decide +kernel)
def m_X0_lastNoted_4  : Nat → q_H → Nat → Int32 → Int32 → Option Int32
  | 0, _, _, _, _ => none
  | n + 1, h0, x0, x1, x2 =>
    (q_gi h0 x0 0 4).bind fun v1 =>
    if v1 ≤ x2 then
      some x1
    else
      (q_gn h0 x0 0 5).bind fun v2 =>
      (q_ai h0 v2 1 x2).bind fun v3 =>
      m_X0_lastNoted_4 n h0 x0 ((if x1 < v3 then v3 else x1)) ((x2 + (1 : Int32)))
set_option maxRecDepth 20000 in
set_option maxHeartbeats 1000000 in
theorem v_X0_lastNoted_4 {Γ : q_G} {sz : Nat} {h0 : q_H} {r : Int32} (C : q_C Γ cX0_lastNoted RX0) (Rm : q_Rm Γ 3 3 80 0 0)  (K : narrow .int (.int r) = .int r → q_K Γ cX0_lastNoted .ireturn sz h0 0 0 [.int r])  : ∀ (n : Nat) (x0 : Nat) (x1 : Int32) (x2 : Int32), m_X0_lastNoted_4 n h0 x0 x1 x2 = some r → q_V Γ sz 0 0 h0 [(0, .ref x0), (1, .int x1), (2, .int x2)] [] 4 := by
  intro n
  induction n with
  | zero => intro x0 x1 x2 hm; cases hm
  | succ n ih =>
    intro x0 x1 x2 hm
    unfold m_X0_lastNoted_4 at hm
    refine q_iload_n C (k4 := 2) 2 rfl (by decide +kernel) ?_
    refine q_aload_n C (k4 := 0) 0 rfl (by decide +kernel) ?_
    refine q_geti C fl_0_40 hm (by decide +kernel) (fun v1 hm => ?_)
    refine q_icmp_ge C (off := 20) 29 hm (by decide +kernel) (by decide) (fun _ hm => ?_) (fun _ hm => ?_)
    · refine q_iload_n C (k4 := 1) 1 rfl (by decide +kernel) ?_
      exact q_riP hm K rfl (by decide +kernel)
    · refine q_iload_n C (k4 := 1) 1 rfl (by decide +kernel) ?_
      refine q_aload_n C (k4 := 0) 0 rfl (by decide +kernel) ?_
      refine q_getn C fl_0_22 hm (by decide +kernel) (fun v2 hm => ?_)
      refine q_iload_n C (k4 := 2) 2 rfl (by decide +kernel) ?_
      refine q_ir C hm (by decide +kernel) (fun v3 hm => ?_)
      refine q_mmax C Rm ml_X0_57 (by decide) (Nat.le_of_ble_eq_true rfl) ⟨Nat.le_refl _, Nat.le_refl _⟩ (by decide +kernel) ?_
      refine q_istore_n C Rm.1 (k4 := 1) (i := 1) rfl (lv' := [(1, .int ((if x1 < v3 then v3 else x1))), (0, .ref x0), (2, .int x2)]) rfl (by decide) (by decide +kernel) ?_
      refine q_iinc C Rm.1 (i := 2) (n := 1) (v := (x2 + (1 : Int32))) 2 rfl (q_inc _ (by decide)) (lv' := [(2, .int ((x2 + (1 : Int32)))), (1, .int ((if x1 < v3 then v3 else x1))), (0, .ref x0)]) rfl (by decide) (by decide +kernel) ?_
      refine q_goto C (off := -22) 4 (by decide +kernel) (by decide) ?_
      refine q_loc [2, 1, 0] rfl ?_
      exact ih _ _ _ hm
def m_X0_lastNoted (h0 : q_H) (a0 : Nat) : Option Int32 :=
  m_X0_lastNoted_4 q_fu h0 a0 ((-1 : Int32)) ((0 : Int32))
set_option maxRecDepth 20000 in
set_option maxHeartbeats 1000000 in
theorem c_X0_lastNoted (l : Launch) (base : Nat) (D : va_G) (tc : Nat → ClassId) (sz : Nat) (h0 : q_H) (a0 : Nat) {r : Int32} (hm : m_X0_lastNoted h0 a0 = some r) : q_M l yX0_lastNoted cX0_lastNoted 3 (some .int) 3 80 0 0 base D tc [.ref a0] sz h0 (some (.int r)) sz h0 := by
  refine q_starti (by decide) (Nat.le_of_ble_eq_true rfl) (fun Γ B K => ?_)
  obtain ⟨C, Rm, -⟩ := B
  have C : q_C Γ cX0_lastNoted RX0 := C
  show q_V Γ sz 0 0 h0 [(0, .ref a0)] [] 0
  unfold m_X0_lastNoted at hm
  refine q_iconst C (n := (-1)) (v := (-1)) (by decide) (by decide +kernel) ?_
  refine q_istore_n C Rm.1 (k4 := 1) (i := 1) rfl (lv' := [(1, .int ((-1 : Int32))), (0, .ref a0)]) rfl (by decide) (by decide +kernel) ?_
  refine q_iconst C (n := 0) (v := 0) (by decide) (by decide +kernel) ?_
  refine q_istore_n C Rm.1 (k4 := 2) (i := 2) rfl (lv' := [(2, .int ((0 : Int32))), (1, .int ((-1 : Int32))), (0, .ref a0)]) rfl (by decide) (by decide +kernel) ?_
  refine q_loc [2, 1, 0] rfl ?_
  exact v_X0_lastNoted_4 C Rm K _ _ _ _ hm
def m_X0_notesAllow_32 (k2 : q_H → Nat → Int32 → Int32 → Int32 → Option Int32) (h0 : q_H) (x0 : Nat) (x1 : Int32) (x2 : Int32) (x3 : Int32) : Option Int32 :=
  k2 h0 x0 x1 x2 ((x3 + (1 : Int32)))
set_option maxRecDepth 20000 in
set_option maxHeartbeats 1000000 in
theorem v_X0_notesAllow_32 {Γ : q_G} {sz : Nat} {h0 : q_H} {r : Int32} (C : q_C Γ cX0_notesAllow RX0) (Rm : q_Rm Γ 4 0 0 0 0) {k2 : q_H → Nat → Int32 → Int32 → Int32 → Option Int32} (K : narrow .boolean (.int r) = .int r → q_K Γ cX0_notesAllow .ireturn sz h0 0 0 [.int r]) (hk2 : ∀ (x0 : Nat) (x1 : Int32) (x2 : Int32) (x3 : Int32), k2 h0 x0 x1 x2 x3 = some r → q_V Γ sz 0 0 h0 [(0, .ref x0), (1, .int x1), (2, .int x2), (3, .int x3)] [] 2) : ∀ (x0 : Nat) (x1 : Int32) (x2 : Int32) (x3 : Int32), m_X0_notesAllow_32 k2 h0 x0 x1 x2 x3 = some r → q_V Γ sz 0 0 h0 [(0, .ref x0), (1, .int x1), (2, .int x2), (3, .int x3)] [] 32 := by
  intro x0 x1 x2 x3 hm
  unfold m_X0_notesAllow_32 at hm
  refine q_iinc C Rm.1 (i := 3) (n := 1) (v := (x3 + (1 : Int32))) 3 rfl (q_inc _ (by decide)) (lv' := [(3, .int ((x3 + (1 : Int32)))), (0, .ref x0), (1, .int x1), (2, .int x2)]) rfl (by decide) (by decide +kernel) ?_
  refine q_goto C (off := -33) 2 (by decide +kernel) (by decide) ?_
  refine q_loc [1, 2, 3, 0] rfl ?_
  exact hk2 _ _ _ _ hm
def m_X0_notesAllow_2  : Nat → q_H → Nat → Int32 → Int32 → Int32 → Option Int32
  | 0, _, _, _, _, _ => none
  | n + 1, h0, x0, x1, x2, x3 =>
    (q_gi h0 x0 0 4).bind fun v1 =>
    if v1 ≤ x3 then
      some ((1 : Int32))
    else
      (q_gn h0 x0 0 5).bind fun v2 =>
      (q_ai h0 v2 1 x3).bind fun v3 =>
      if v3 = x1 then
        (q_gn h0 x0 0 6).bind fun v4 =>
        (q_ai h0 v4 1 x3).bind fun v5 =>
        if v5 = x2 then
          m_X0_notesAllow_32 (m_X0_notesAllow_2 n) h0 x0 x1 x2 x3
        else
          some ((0 : Int32))
      else
        m_X0_notesAllow_32 (m_X0_notesAllow_2 n) h0 x0 x1 x2 x3
set_option maxRecDepth 20000 in
set_option maxHeartbeats 1000000 in
theorem v_X0_notesAllow_2 {Γ : q_G} {sz : Nat} {h0 : q_H} {r : Int32} (C : q_C Γ cX0_notesAllow RX0) (Rm : q_Rm Γ 4 0 0 0 0)  (K : narrow .boolean (.int r) = .int r → q_K Γ cX0_notesAllow .ireturn sz h0 0 0 [.int r])  : ∀ (n : Nat) (x0 : Nat) (x1 : Int32) (x2 : Int32) (x3 : Int32), m_X0_notesAllow_2 n h0 x0 x1 x2 x3 = some r → q_V Γ sz 0 0 h0 [(0, .ref x0), (1, .int x1), (2, .int x2), (3, .int x3)] [] 2 := by
  intro n
  induction n with
  | zero => intro x0 x1 x2 x3 hm; cases hm
  | succ n ih =>
    intro x0 x1 x2 x3 hm
    unfold m_X0_notesAllow_2 at hm
    refine q_iload_n C (k4 := 3) 3 rfl (by decide +kernel) ?_
    refine q_aload_n C (k4 := 0) 0 rfl (by decide +kernel) ?_
    refine q_geti C fl_0_40 hm (by decide +kernel) (fun v1 hm => ?_)
    refine q_icmp_ge C (off := 31) 38 hm (by decide +kernel) (by decide) (fun _ hm => ?_) (fun _ hm => ?_)
    · refine q_iconst C (n := 1) (v := 1) (by decide) (by decide +kernel) ?_
      exact q_riP hm K q_z1 (by decide +kernel)
    · refine q_aload_n C (k4 := 0) 0 rfl (by decide +kernel) ?_
      refine q_getn C fl_0_22 hm (by decide +kernel) (fun v2 hm => ?_)
      refine q_iload_n C (k4 := 3) 3 rfl (by decide +kernel) ?_
      refine q_ir C hm (by decide +kernel) (fun v3 hm => ?_)
      refine q_iload_n C (k4 := 1) 1 rfl (by decide +kernel) ?_
      refine q_icmp_ne C (off := 15) 32 hm (by decide +kernel) (by decide) (fun _ hm => ?_) (fun _ hm => ?_)
      · exact v_X0_notesAllow_32 C Rm K ih _ _ _ _ hm
      · refine q_aload_n C (k4 := 0) 0 rfl (by decide +kernel) ?_
        refine q_getn C fl_0_26 hm (by decide +kernel) (fun v4 hm => ?_)
        refine q_iload_n C (k4 := 3) 3 rfl (by decide +kernel) ?_
        refine q_ir C hm (by decide +kernel) (fun v5 hm => ?_)
        refine q_iload_n C (k4 := 2) 2 rfl (by decide +kernel) ?_
        refine q_icmp_eq C (off := 5) 32 hm (by decide +kernel) (by decide) (fun _ hm => ?_) (fun _ hm => ?_)
        · exact v_X0_notesAllow_32 C Rm K ih _ _ _ _ hm
        · refine q_iconst C (n := 0) (v := 0) (by decide) (by decide +kernel) ?_
          exact q_riP hm K q_z0 (by decide +kernel)
def m_X0_notesAllow (h0 : q_H) (a0 : Nat) (a1 : Int32) (a2 : Int32) : Option Int32 :=
  m_X0_notesAllow_2 q_fu h0 a0 a1 a2 ((0 : Int32))
set_option maxRecDepth 20000 in
set_option maxHeartbeats 1000000 in
theorem c_X0_notesAllow (l : Launch) (base : Nat) (D : va_G) (tc : Nat → ClassId) (sz : Nat) (h0 : q_H) (a0 : Nat) (a1 : Int32) (a2 : Int32) {r : Int32} (hm : m_X0_notesAllow h0 a0 a1 a2 = some r) : q_M l yX0_notesAllow cX0_notesAllow 4 (some .boolean) 0 0 0 0 base D tc [.ref a0, .int a1, .int a2] sz h0 (some (.int r)) sz h0 := by
  refine q_starti (by decide) (Nat.le_of_ble_eq_true rfl) (fun Γ B K => ?_)
  obtain ⟨C, Rm, -⟩ := B
  have C : q_C Γ cX0_notesAllow RX0 := C
  show q_V Γ sz 0 0 h0 [(0, .ref a0), (1, .int a1), (2, .int a2)] [] 0
  unfold m_X0_notesAllow at hm
  refine q_iconst C (n := 0) (v := 0) (by decide) (by decide +kernel) ?_
  refine q_istore_n C Rm.1 (k4 := 3) (i := 3) rfl (lv' := [(3, .int ((0 : Int32))), (0, .ref a0), (1, .int a1), (2, .int a2)]) rfl (by decide) (by decide +kernel) ?_
  refine q_loc [1, 2, 3, 0] rfl ?_
  exact v_X0_notesAllow_2 C Rm K _ _ _ _ _ hm
def m_J7_fill_53178_5  : Nat → q_H → Nat → Int32 → Int32 → Int32 → Option q_H
  | 0, _, _, _, _, _ => none
  | n + 1, h, x0, x1, x2, x3 =>
    if x3 ≤ x2 then
      some h
    else
      (q_si h x0 1 x2 x1).bind fun h2 =>
      m_J7_fill_53178_5 n h2 x0 x1 ((x2 + (1 : Int32))) x3
set_option maxRecDepth 20000 in
set_option maxHeartbeats 1000000 in
theorem v_J7_fill_53178_5 {Γ : q_G} {sz : Nat} {h' : q_H} (C : q_C Γ cJ7_fill_53178 RJ7) (Rm : q_Rm Γ 4 0 0 0 0)  (K : q_K Γ cJ7_fill_53178 .return_ sz h' 0 0 [])  : ∀ (n : Nat) (h : q_H) (x0 : Nat) (x1 : Int32) (x2 : Int32) (x3 : Int32), m_J7_fill_53178_5 n h x0 x1 x2 x3 = some h' → q_V Γ sz 0 0 h [(0, .ref x0), (1, .int x1), (2, .int x2), (3, .int x3)] [] 5 := by
  intro n
  induction n with
  | zero => intro h x0 x1 x2 x3 hm; cases hm
  | succ n ih =>
    intro h x0 x1 x2 x3 hm
    unfold m_J7_fill_53178_5 at hm
    refine q_iload_n C (k4 := 2) 2 rfl (by decide +kernel) ?_
    refine q_iload_n C (k4 := 3) 3 rfl (by decide +kernel) ?_
    refine q_icmp_ge C (off := 13) 20 hm (by decide +kernel) (by decide) (fun _ hm => ?_) (fun _ hm => ?_)
    · exact q_rvS hm K (by decide +kernel)
    · refine q_aload_n C (k4 := 0) 0 rfl (by decide +kernel) ?_
      refine q_iload_n C (k4 := 2) 2 rfl (by decide +kernel) ?_
      refine q_iload_n C (k4 := 1) 1 rfl (by decide +kernel) ?_
      refine q_iw C hm (by decide +kernel) (fun h2 hm => ?_)
      refine q_iinc C Rm.1 (i := 2) (n := 1) (v := (x2 + (1 : Int32))) 2 rfl (q_inc _ (by decide)) (lv' := [(2, .int ((x2 + (1 : Int32)))), (0, .ref x0), (1, .int x1), (3, .int x3)]) rfl (by decide) (by decide +kernel) ?_
      refine q_goto C (off := -12) 5 (by decide +kernel) (by decide) ?_
      refine q_loc [1, 2, 0, 3] rfl ?_
      exact ih _ _ _ _ _ hm
def m_J7_fill_53178 (h : q_H) (a0 : Nat) (a1 : Int32) : Option q_H :=
  (q_ln h a0).bind fun v1 =>
  m_J7_fill_53178_5 q_fu h a0 a1 ((0 : Int32)) v1
set_option maxRecDepth 20000 in
set_option maxHeartbeats 1000000 in
theorem c_J7_fill_53178 (l : Launch) (base : Nat) (D : va_G) (tc : Nat → ClassId) (sz : Nat) (h : q_H) (a0 : Nat) (a1 : Int32) {h' : q_H} (hm : m_J7_fill_53178 h a0 a1 = some h') : q_M l yJ7_fill_53178 cJ7_fill_53178 4 none 0 0 0 0 base D tc [.ref a0, .int a1] sz h none sz h' := by
  refine q_startv (by decide) (Nat.le_of_ble_eq_true rfl) (fun Γ B K => ?_)
  obtain ⟨C, Rm, -⟩ := B
  have C : q_C Γ cJ7_fill_53178 RJ7 := C
  show q_V Γ sz 0 0 h [(0, .ref a0), (1, .int a1)] [] 0
  unfold m_J7_fill_53178 at hm
  refine q_iconst C (n := 0) (v := 0) (by decide) (by decide +kernel) ?_
  refine q_istore_n C Rm.1 (k4 := 2) (i := 2) rfl (lv' := [(2, .int ((0 : Int32))), (0, .ref a0), (1, .int a1)]) rfl (by decide) (by decide +kernel) ?_
  refine q_aload_n C (k4 := 0) 1 rfl (by decide +kernel) ?_
  refine q_len C hm (by decide +kernel) (fun v1 hm => ?_)
  refine q_istore_n C Rm.1 (k4 := 3) (i := 3) rfl (lv' := [(3, .int v1), (2, .int ((0 : Int32))), (0, .ref a0), (1, .int a1)]) rfl (by decide) (by decide +kernel) ?_
  refine q_loc [2, 3, 1, 0] rfl ?_
  exact v_J7_fill_53178_5 C Rm K _ _ _ _ _ _ hm
def m_X1_takeUp (h : q_H) (a0 : Nat) (a1 : Nat) (a2 : Option Nat) : Option q_H :=
  (q_pf h a0 1 0 (.ref a1)).bind fun h1 =>
  (q_pf h1 a0 1 1 (va_rf a2)).bind fun h2 =>
  (q_gn h2 a0 1 2).bind fun v3 =>
  (m_J7_fill_53178 h2 v3 ((-1 : Int32))).bind fun h5 =>
  some h5
set_option maxRecDepth 20000 in
set_option maxHeartbeats 1000000 in
theorem c_X1_takeUp (l : Launch) (base : Nat) (D : va_G) (tc : Nat → ClassId) (sz : Nat) (h : q_H) (a0 : Nat) (a1 : Nat) (a2 : Option Nat) {h' : q_H} (hm : m_X1_takeUp h a0 a1 a2 = some h') : q_M l yX1_takeUp cX1_takeUp 3 none 1 23 0 0 base D tc [.ref a0, .ref a1, va_rf a2] sz h none sz h' := by
  refine q_startv (by decide) (by cases a2 <;> exact Nat.le_of_ble_eq_true rfl) (fun Γ B K => ?_)
  obtain ⟨C, Rm, -⟩ := B
  have C : q_C Γ cX1_takeUp RX1 := C
  rw [show lv_args 0 [.ref a0, .ref a1, va_rf a2] = [(0, .ref a0), (1, .ref a1), (2, va_rf a2)] from by cases a2 <;> rfl]
  unfold m_X1_takeUp at hm
  refine q_aload_n C (k4 := 0) 0 rfl (by decide +kernel) ?_
  refine q_aload_n C (k4 := 1) 1 rfl (by decide +kernel) ?_
  refine q_putf C fl_1_30 hm rfl rfl (by decide +kernel) (fun h1 hm => ?_)
  refine q_aload_n C (k4 := 0) 0 rfl (by decide +kernel) ?_
  refine q_aload_nO C (k4 := 2) 2 rfl (by decide +kernel) ?_
  refine q_putf C fl_1_34 hm (q_no_n _) (q_no_f _) (by decide +kernel) (fun h2 hm => ?_)
  refine q_aload_n C (k4 := 0) 0 rfl (by decide +kernel) ?_
  refine q_getn C fl_1_9 hm (by decide +kernel) (fun v3 hm => ?_)
  refine q_iconst C (n := (-1)) (v := (-1)) (by decide) (by decide +kernel) ?_
  refine q_svS C Rm (As := [.ref v3, .int ((-1 : Int32))]) (rest := []) Y_J7_fill_53178 Ys_J7_fill_53178 ml_X1_38 (by decide) (by decide) hm (fun h5 e9 => c_J7_fill_53178 _ _ _ _ _ _ _ _ e9) rfl rfl (Nat.le_of_ble_eq_true rfl) (by decide +kernel) (fun h5 hm => ?_)
  exact q_rvS hm K (by decide +kernel)
def m_X1_fix (h : q_H) (a0 : Nat) (a1 : Int32) (a2 : Int32) : Option q_H :=
  if a1 < 0 then
    some h
  else
    (q_gn h a0 1 2).bind fun v1 =>
    (q_ln h v1).bind fun v2 =>
    if v2 ≤ a1 then
      some h
    else
      (q_gn h a0 1 2).bind fun v3 =>
      (q_si h v3 1 a1 a2).bind fun h4 =>
      some h4
set_option maxRecDepth 20000 in
set_option maxHeartbeats 1000000 in
theorem c_X1_fix (l : Launch) (base : Nat) (D : va_G) (tc : Nat → ClassId) (sz : Nat) (h : q_H) (a0 : Nat) (a1 : Int32) (a2 : Int32) {h' : q_H} (hm : m_X1_fix h a0 a1 a2 = some h') : q_M l yX1_fix cX1_fix 3 none 0 0 0 0 base D tc [.ref a0, .int a1, .int a2] sz h none sz h' := by
  refine q_startv (by decide) (Nat.le_of_ble_eq_true rfl) (fun Γ B K => ?_)
  obtain ⟨C, Rm, -⟩ := B
  have C : q_C Γ cX1_fix RX1 := C
  show q_V Γ sz 0 0 h [(0, .ref a0), (1, .int a1), (2, .int a2)] [] 0
  unfold m_X1_fix at hm
  refine q_iload_n C (k4 := 1) 1 rfl (by decide +kernel) ?_
  refine q_if_lt C (off := 19) 20 hm (by decide +kernel) (by decide) (fun _ hm => ?_) (fun _ hm => ?_)
  · exact q_rvS hm K (by decide +kernel)
  · refine q_iload_n C (k4 := 1) 1 rfl (by decide +kernel) ?_
    refine q_aload_n C (k4 := 0) 0 rfl (by decide +kernel) ?_
    refine q_getn C fl_1_9 hm (by decide +kernel) (fun v1 hm => ?_)
    refine q_len C hm (by decide +kernel) (fun v2 hm => ?_)
    refine q_icmp_ge C (off := 10) 20 hm (by decide +kernel) (by decide) (fun _ hm => ?_) (fun _ hm => ?_)
    · exact q_rvS hm K (by decide +kernel)
    · refine q_aload_n C (k4 := 0) 0 rfl (by decide +kernel) ?_
      refine q_getn C fl_1_9 hm (by decide +kernel) (fun v3 hm => ?_)
      refine q_iload_n C (k4 := 1) 1 rfl (by decide +kernel) ?_
      refine q_iload_n C (k4 := 2) 2 rfl (by decide +kernel) ?_
      refine q_iw C hm (by decide +kernel) (fun h4 hm => ?_)
      exact q_rvS hm K (by decide +kernel)
def m_X10_isOver (h0 : q_H) (a0 : Nat) (a1 : Int32) : Option Int32 :=
  (q_gi h0 a0 10 0).bind fun v1 =>
  if a1 ≤ v1 then
    some ((1 : Int32))
  else
    (q_gi h0 a0 10 0).bind fun v2 =>
    if (0 - a1) < v2 then
      some ((0 : Int32))
    else
      some ((1 : Int32))
set_option maxRecDepth 20000 in
set_option maxHeartbeats 1000000 in
theorem c_X10_isOver (l : Launch) (base : Nat) (D : va_G) (tc : Nat → ClassId) (sz : Nat) (h0 : q_H) (a0 : Nat) (a1 : Int32) {r : Int32} (hm : m_X10_isOver h0 a0 a1 = some r) : q_M l yX10_isOver cX10_isOver 2 (some .boolean) 0 0 0 0 base D tc [.ref a0, .int a1] sz h0 (some (.int r)) sz h0 := by
  refine q_starti (by decide) (Nat.le_of_ble_eq_true rfl) (fun Γ B K => ?_)
  obtain ⟨C, Rm, -⟩ := B
  have C : q_C Γ cX10_isOver RX10 := C
  show q_V Γ sz 0 0 h0 [(0, .ref a0), (1, .int a1)] [] 0
  unfold m_X10_isOver at hm
  refine q_aload_n C (k4 := 0) 0 rfl (by decide +kernel) ?_
  refine q_geti C fl_10_30 hm (by decide +kernel) (fun v1 hm => ?_)
  refine q_iload_n C (k4 := 1) 1 rfl (by decide +kernel) ?_
  refine q_icmp_ge C (off := 12) 17 hm (by decide +kernel) (by decide) (fun _ hm => ?_) (fun _ hm => ?_)
  · refine q_iconst C (n := 1) (v := 1) (by decide) (by decide +kernel) ?_
    refine q_goto C (off := 4) 22 (by decide +kernel) (by decide) ?_
    exact q_riP hm K q_z1 (by decide +kernel)
  · refine q_aload_n C (k4 := 0) 0 rfl (by decide +kernel) ?_
    refine q_geti C fl_10_30 hm (by decide +kernel) (fun v2 hm => ?_)
    refine q_iload_n C (k4 := 1) 1 rfl (by decide +kernel) ?_
    refine q_ineg C (by decide +kernel) ?_
    refine q_icmp_gt C (off := 7) 21 hm (by decide +kernel) (by decide) (fun _ hm => ?_) (fun _ hm => ?_)
    · refine q_iconst C (n := 0) (v := 0) (by decide) (by decide +kernel) ?_
      exact q_riP hm K q_z0 (by decide +kernel)
    · refine q_iconst C (n := 1) (v := 1) (by decide) (by decide +kernel) ?_
      refine q_goto C (off := 4) 22 (by decide +kernel) (by decide) ?_
      exact q_riP hm K q_z1 (by decide +kernel)
def m_X10_setOnSide_29 (k5 : q_H → Nat → Int32 → Int32 → Int32 → Int32 → Option Int32) (h0 : q_H) (x0 : Nat) (x1 : Int32) (x2 : Int32) (x3 : Int32) (x4 : Int32) : Option Int32 :=
  k5 h0 x0 x1 x2 x3 ((x4 + (1 : Int32)))
set_option maxRecDepth 20000 in
set_option maxHeartbeats 1000000 in
theorem v_X10_setOnSide_29 {Γ : q_G} {sz : Nat} {h0 : q_H} {r : Int32} (C : q_C Γ cX10_setOnSide RX10) (Rm : q_Rm Γ 5 0 0 0 0) {k5 : q_H → Nat → Int32 → Int32 → Int32 → Int32 → Option Int32} (K : narrow .int (.int r) = .int r → q_K Γ cX10_setOnSide .ireturn sz h0 0 0 [.int r]) (hk5 : ∀ (x0 : Nat) (x1 : Int32) (x2 : Int32) (x3 : Int32) (x4 : Int32), k5 h0 x0 x1 x2 x3 x4 = some r → q_V Γ sz 0 0 h0 [(0, .ref x0), (1, .int x1), (2, .int x2), (3, .int x3), (4, .int x4)] [] 5) : ∀ (x0 : Nat) (x1 : Int32) (x2 : Int32) (x3 : Int32) (x4 : Int32), m_X10_setOnSide_29 k5 h0 x0 x1 x2 x3 x4 = some r → q_V Γ sz 0 0 h0 [(0, .ref x0), (1, .int x1), (2, .int x2), (3, .int x3), (4, .int x4)] [] 29 := by
  intro x0 x1 x2 x3 x4 hm
  unfold m_X10_setOnSide_29 at hm
  refine q_iinc C Rm.1 (i := 4) (n := 1) (v := (x4 + (1 : Int32))) 4 rfl (q_inc _ (by decide)) (lv' := [(4, .int ((x4 + (1 : Int32)))), (0, .ref x0), (1, .int x1), (2, .int x2), (3, .int x3)]) rfl (by decide) (by decide +kernel) ?_
  refine q_goto C (off := -27) 5 (by decide +kernel) (by decide) ?_
  refine q_loc [1, 2, 3, 4, 0] rfl ?_
  exact hk5 _ _ _ _ _ hm
def m_X10_setOnSide_5  : Nat → q_H → Nat → Int32 → Int32 → Int32 → Int32 → Option Int32
  | 0, _, _, _, _, _, _ => none
  | n + 1, h0, x0, x1, x2, x3, x4 =>
    if x2 ≤ x4 then
      some x3
    else
      (q_gn h0 x0 10 3).bind fun v1 =>
      (q_ai h0 v1 1 x4).bind fun v2 =>
      if v2 = x1 then
        m_X10_setOnSide_29 (m_X10_setOnSide_5 n) h0 x0 x1 x2 ((x3 ||| ((1 : Int32) <<< (x4 &&& 31)))) x4
      else
        m_X10_setOnSide_29 (m_X10_setOnSide_5 n) h0 x0 x1 x2 x3 x4
set_option maxRecDepth 20000 in
set_option maxHeartbeats 1000000 in
theorem v_X10_setOnSide_5 {Γ : q_G} {sz : Nat} {h0 : q_H} {r : Int32} (C : q_C Γ cX10_setOnSide RX10) (Rm : q_Rm Γ 5 0 0 0 0)  (K : narrow .int (.int r) = .int r → q_K Γ cX10_setOnSide .ireturn sz h0 0 0 [.int r])  : ∀ (n : Nat) (x0 : Nat) (x1 : Int32) (x2 : Int32) (x3 : Int32) (x4 : Int32), m_X10_setOnSide_5 n h0 x0 x1 x2 x3 x4 = some r → q_V Γ sz 0 0 h0 [(0, .ref x0), (1, .int x1), (2, .int x2), (3, .int x3), (4, .int x4)] [] 5 := by
  intro n
  induction n with
  | zero => intro x0 x1 x2 x3 x4 hm; cases hm
  | succ n ih =>
    intro x0 x1 x2 x3 x4 hm
    unfold m_X10_setOnSide_5 at hm
    refine q_iload C (i := 4) 4 rfl (by decide +kernel) ?_
    refine q_iload_n C (k4 := 2) 2 rfl (by decide +kernel) ?_
    refine q_icmp_ge C (off := 27) 35 hm (by decide +kernel) (by decide) (fun _ hm => ?_) (fun _ hm => ?_)
    · refine q_iload_n C (k4 := 3) 3 rfl (by decide +kernel) ?_
      exact q_riP hm K rfl (by decide +kernel)
    · refine q_aload_n C (k4 := 0) 0 rfl (by decide +kernel) ?_
      refine q_getn C fl_10_9 hm (by decide +kernel) (fun v1 hm => ?_)
      refine q_iload C (i := 4) 4 rfl (by decide +kernel) ?_
      refine q_ir C hm (by decide +kernel) (fun v2 hm => ?_)
      refine q_iload_n C (k4 := 1) 1 rfl (by decide +kernel) ?_
      refine q_icmp_ne C (off := 10) 29 hm (by decide +kernel) (by decide) (fun _ hm => ?_) (fun _ hm => ?_)
      · exact v_X10_setOnSide_29 C Rm K ih _ _ _ _ _ hm
      · refine q_iload_n C (k4 := 3) 3 rfl (by decide +kernel) ?_
        refine q_iconst C (n := 1) (v := 1) (by decide) (by decide +kernel) ?_
        refine q_iload C (i := 4) 4 rfl (by decide +kernel) ?_
        refine q_ishl C (by decide +kernel) ?_
        refine q_ior C (by decide +kernel) ?_
        refine q_istore_n C Rm.1 (k4 := 3) (i := 3) rfl (lv' := [(3, .int ((x3 ||| ((1 : Int32) <<< (x4 &&& 31))))), (0, .ref x0), (1, .int x1), (2, .int x2), (4, .int x4)]) rfl (by decide) (by decide +kernel) ?_
        refine q_loc [1, 2, 3, 0, 4] rfl ?_
        exact v_X10_setOnSide_29 C Rm K ih _ _ _ _ _ hm
def m_X10_setOnSide (h0 : q_H) (a0 : Nat) (a1 : Int32) (a2 : Int32) : Option Int32 :=
  m_X10_setOnSide_5 q_fu h0 a0 a1 a2 ((0 : Int32)) ((0 : Int32))
set_option maxRecDepth 20000 in
set_option maxHeartbeats 1000000 in
theorem c_X10_setOnSide (l : Launch) (base : Nat) (D : va_G) (tc : Nat → ClassId) (sz : Nat) (h0 : q_H) (a0 : Nat) (a1 : Int32) (a2 : Int32) {r : Int32} (hm : m_X10_setOnSide h0 a0 a1 a2 = some r) : q_M l yX10_setOnSide cX10_setOnSide 5 (some .int) 0 0 0 0 base D tc [.ref a0, .int a1, .int a2] sz h0 (some (.int r)) sz h0 := by
  refine q_starti (by decide) (Nat.le_of_ble_eq_true rfl) (fun Γ B K => ?_)
  obtain ⟨C, Rm, -⟩ := B
  have C : q_C Γ cX10_setOnSide RX10 := C
  show q_V Γ sz 0 0 h0 [(0, .ref a0), (1, .int a1), (2, .int a2)] [] 0
  unfold m_X10_setOnSide at hm
  refine q_iconst C (n := 0) (v := 0) (by decide) (by decide +kernel) ?_
  refine q_istore_n C Rm.1 (k4 := 3) (i := 3) rfl (lv' := [(3, .int ((0 : Int32))), (0, .ref a0), (1, .int a1), (2, .int a2)]) rfl (by decide) (by decide +kernel) ?_
  refine q_iconst C (n := 0) (v := 0) (by decide) (by decide +kernel) ?_
  refine q_istore C Rm.1 (i := 4) (lv' := [(4, .int ((0 : Int32))), (3, .int ((0 : Int32))), (0, .ref a0), (1, .int a1), (2, .int a2)]) rfl (by decide) (by decide +kernel) ?_
  refine q_loc [2, 3, 4, 1, 0] rfl ?_
  exact v_X10_setOnSide_5 C Rm K _ _ _ _ _ _ hm
def m_J6_bitCount_0f7a4 (a0 : Int32) : Option Int32 :=
  some (((((((((a0 - ((a0.toUInt32 >>> (((1 : Int32)).toUInt32 &&& Int32.toUInt32 31)).toInt32 &&& (1431655765 : Int32))) &&& (858993459 : Int32)) + ((((a0 - ((a0.toUInt32 >>> (((1 : Int32)).toUInt32 &&& Int32.toUInt32 31)).toInt32 &&& (1431655765 : Int32)))).toUInt32 >>> (((2 : Int32)).toUInt32 &&& Int32.toUInt32 31)).toInt32 &&& (858993459 : Int32))) + (((((a0 - ((a0.toUInt32 >>> (((1 : Int32)).toUInt32 &&& Int32.toUInt32 31)).toInt32 &&& (1431655765 : Int32))) &&& (858993459 : Int32)) + ((((a0 - ((a0.toUInt32 >>> (((1 : Int32)).toUInt32 &&& Int32.toUInt32 31)).toInt32 &&& (1431655765 : Int32)))).toUInt32 >>> (((2 : Int32)).toUInt32 &&& Int32.toUInt32 31)).toInt32 &&& (858993459 : Int32)))).toUInt32 >>> (((4 : Int32)).toUInt32 &&& Int32.toUInt32 31)).toInt32) &&& (252645135 : Int32)) + (((((((a0 - ((a0.toUInt32 >>> (((1 : Int32)).toUInt32 &&& Int32.toUInt32 31)).toInt32 &&& (1431655765 : Int32))) &&& (858993459 : Int32)) + ((((a0 - ((a0.toUInt32 >>> (((1 : Int32)).toUInt32 &&& Int32.toUInt32 31)).toInt32 &&& (1431655765 : Int32)))).toUInt32 >>> (((2 : Int32)).toUInt32 &&& Int32.toUInt32 31)).toInt32 &&& (858993459 : Int32))) + (((((a0 - ((a0.toUInt32 >>> (((1 : Int32)).toUInt32 &&& Int32.toUInt32 31)).toInt32 &&& (1431655765 : Int32))) &&& (858993459 : Int32)) + ((((a0 - ((a0.toUInt32 >>> (((1 : Int32)).toUInt32 &&& Int32.toUInt32 31)).toInt32 &&& (1431655765 : Int32)))).toUInt32 >>> (((2 : Int32)).toUInt32 &&& Int32.toUInt32 31)).toInt32 &&& (858993459 : Int32)))).toUInt32 >>> (((4 : Int32)).toUInt32 &&& Int32.toUInt32 31)).toInt32) &&& (252645135 : Int32))).toUInt32 >>> (((8 : Int32)).toUInt32 &&& Int32.toUInt32 31)).toInt32) + ((((((((a0 - ((a0.toUInt32 >>> (((1 : Int32)).toUInt32 &&& Int32.toUInt32 31)).toInt32 &&& (1431655765 : Int32))) &&& (858993459 : Int32)) + ((((a0 - ((a0.toUInt32 >>> (((1 : Int32)).toUInt32 &&& Int32.toUInt32 31)).toInt32 &&& (1431655765 : Int32)))).toUInt32 >>> (((2 : Int32)).toUInt32 &&& Int32.toUInt32 31)).toInt32 &&& (858993459 : Int32))) + (((((a0 - ((a0.toUInt32 >>> (((1 : Int32)).toUInt32 &&& Int32.toUInt32 31)).toInt32 &&& (1431655765 : Int32))) &&& (858993459 : Int32)) + ((((a0 - ((a0.toUInt32 >>> (((1 : Int32)).toUInt32 &&& Int32.toUInt32 31)).toInt32 &&& (1431655765 : Int32)))).toUInt32 >>> (((2 : Int32)).toUInt32 &&& Int32.toUInt32 31)).toInt32 &&& (858993459 : Int32)))).toUInt32 >>> (((4 : Int32)).toUInt32 &&& Int32.toUInt32 31)).toInt32) &&& (252645135 : Int32)) + (((((((a0 - ((a0.toUInt32 >>> (((1 : Int32)).toUInt32 &&& Int32.toUInt32 31)).toInt32 &&& (1431655765 : Int32))) &&& (858993459 : Int32)) + ((((a0 - ((a0.toUInt32 >>> (((1 : Int32)).toUInt32 &&& Int32.toUInt32 31)).toInt32 &&& (1431655765 : Int32)))).toUInt32 >>> (((2 : Int32)).toUInt32 &&& Int32.toUInt32 31)).toInt32 &&& (858993459 : Int32))) + (((((a0 - ((a0.toUInt32 >>> (((1 : Int32)).toUInt32 &&& Int32.toUInt32 31)).toInt32 &&& (1431655765 : Int32))) &&& (858993459 : Int32)) + ((((a0 - ((a0.toUInt32 >>> (((1 : Int32)).toUInt32 &&& Int32.toUInt32 31)).toInt32 &&& (1431655765 : Int32)))).toUInt32 >>> (((2 : Int32)).toUInt32 &&& Int32.toUInt32 31)).toInt32 &&& (858993459 : Int32)))).toUInt32 >>> (((4 : Int32)).toUInt32 &&& Int32.toUInt32 31)).toInt32) &&& (252645135 : Int32))).toUInt32 >>> (((8 : Int32)).toUInt32 &&& Int32.toUInt32 31)).toInt32)).toUInt32 >>> (((16 : Int32)).toUInt32 &&& Int32.toUInt32 31)).toInt32) &&& (63 : Int32)))
set_option maxRecDepth 20000 in
set_option maxHeartbeats 1000000 in
theorem c_J6_bitCount_0f7a4 (l : Launch) (base : Nat) (D : va_G) (tc : Nat → ClassId) (sz : Nat) (h0 : q_H) (a0 : Int32) {r : Int32} (hm : m_J6_bitCount_0f7a4 a0 = some r) : q_M l yJ6_bitCount_0f7a4 cJ6_bitCount_0f7a4 1 (some .int) 0 0 0 0 base D tc [.int a0] sz h0 (some (.int r)) sz h0 := by
  refine q_starti (by decide) (Nat.le_of_ble_eq_true rfl) (fun Γ B K => ?_)
  obtain ⟨C, Rm, -⟩ := B
  have C : q_C Γ cJ6_bitCount_0f7a4 RJ6 := C
  show q_V Γ sz 0 0 h0 [(0, .int a0)] [] 0
  unfold m_J6_bitCount_0f7a4 at hm
  refine q_iload_n C (k4 := 0) 0 rfl (by decide +kernel) ?_
  refine q_iload_n C (k4 := 0) 0 rfl (by decide +kernel) ?_
  refine q_iconst C (n := 1) (v := 1) (by decide) (by decide +kernel) ?_
  refine q_iushr C (by decide +kernel) ?_
  refine q_ldc_w C (idx := 265) (v := 1431655765) (q_m4 4 rfl rfl) (by decide +kernel) ?_
  refine q_iand C (by decide +kernel) ?_
  refine q_isub C (by decide +kernel) ?_
  refine q_istore_n C Rm.1 (k4 := 0) (i := 0) rfl (lv' := [(0, .int ((a0 - ((a0.toUInt32 >>> (((1 : Int32)).toUInt32 &&& Int32.toUInt32 31)).toInt32 &&& (1431655765 : Int32)))))]) rfl (by decide) (by decide +kernel) ?_
  refine q_iload_n C (k4 := 0) 0 rfl (by decide +kernel) ?_
  refine q_ldc_w C (idx := 266) (v := 858993459) (q_m4 5 rfl rfl) (by decide +kernel) ?_
  refine q_iand C (by decide +kernel) ?_
  refine q_iload_n C (k4 := 0) 0 rfl (by decide +kernel) ?_
  refine q_iconst C (n := 2) (v := 2) (by decide) (by decide +kernel) ?_
  refine q_iushr C (by decide +kernel) ?_
  refine q_ldc_w C (idx := 266) (v := 858993459) (q_m4 5 rfl rfl) (by decide +kernel) ?_
  refine q_iand C (by decide +kernel) ?_
  refine q_iadd C (by decide +kernel) ?_
  refine q_istore_n C Rm.1 (k4 := 0) (i := 0) rfl (lv' := [(0, .int ((((a0 - ((a0.toUInt32 >>> (((1 : Int32)).toUInt32 &&& Int32.toUInt32 31)).toInt32 &&& (1431655765 : Int32))) &&& (858993459 : Int32)) + ((((a0 - ((a0.toUInt32 >>> (((1 : Int32)).toUInt32 &&& Int32.toUInt32 31)).toInt32 &&& (1431655765 : Int32)))).toUInt32 >>> (((2 : Int32)).toUInt32 &&& Int32.toUInt32 31)).toInt32 &&& (858993459 : Int32)))))]) rfl (by decide) (by decide +kernel) ?_
  refine q_iload_n C (k4 := 0) 0 rfl (by decide +kernel) ?_
  refine q_iload_n C (k4 := 0) 0 rfl (by decide +kernel) ?_
  refine q_iconst C (n := 4) (v := 4) (by decide) (by decide +kernel) ?_
  refine q_iushr C (by decide +kernel) ?_
  refine q_iadd C (by decide +kernel) ?_
  refine q_ldc_w C (idx := 267) (v := 252645135) (q_m4 6 rfl rfl) (by decide +kernel) ?_
  refine q_iand C (by decide +kernel) ?_
  refine q_istore_n C Rm.1 (k4 := 0) (i := 0) rfl (lv' := [(0, .int ((((((a0 - ((a0.toUInt32 >>> (((1 : Int32)).toUInt32 &&& Int32.toUInt32 31)).toInt32 &&& (1431655765 : Int32))) &&& (858993459 : Int32)) + ((((a0 - ((a0.toUInt32 >>> (((1 : Int32)).toUInt32 &&& Int32.toUInt32 31)).toInt32 &&& (1431655765 : Int32)))).toUInt32 >>> (((2 : Int32)).toUInt32 &&& Int32.toUInt32 31)).toInt32 &&& (858993459 : Int32))) + (((((a0 - ((a0.toUInt32 >>> (((1 : Int32)).toUInt32 &&& Int32.toUInt32 31)).toInt32 &&& (1431655765 : Int32))) &&& (858993459 : Int32)) + ((((a0 - ((a0.toUInt32 >>> (((1 : Int32)).toUInt32 &&& Int32.toUInt32 31)).toInt32 &&& (1431655765 : Int32)))).toUInt32 >>> (((2 : Int32)).toUInt32 &&& Int32.toUInt32 31)).toInt32 &&& (858993459 : Int32)))).toUInt32 >>> (((4 : Int32)).toUInt32 &&& Int32.toUInt32 31)).toInt32) &&& (252645135 : Int32))))]) rfl (by decide) (by decide +kernel) ?_
  refine q_iload_n C (k4 := 0) 0 rfl (by decide +kernel) ?_
  refine q_iload_n C (k4 := 0) 0 rfl (by decide +kernel) ?_
  refine q_bipush C (n := 8) (v := 8) (by decide) (by decide +kernel) ?_
  refine q_iushr C (by decide +kernel) ?_
  refine q_iadd C (by decide +kernel) ?_
  refine q_istore_n C Rm.1 (k4 := 0) (i := 0) rfl (lv' := [(0, .int (((((((a0 - ((a0.toUInt32 >>> (((1 : Int32)).toUInt32 &&& Int32.toUInt32 31)).toInt32 &&& (1431655765 : Int32))) &&& (858993459 : Int32)) + ((((a0 - ((a0.toUInt32 >>> (((1 : Int32)).toUInt32 &&& Int32.toUInt32 31)).toInt32 &&& (1431655765 : Int32)))).toUInt32 >>> (((2 : Int32)).toUInt32 &&& Int32.toUInt32 31)).toInt32 &&& (858993459 : Int32))) + (((((a0 - ((a0.toUInt32 >>> (((1 : Int32)).toUInt32 &&& Int32.toUInt32 31)).toInt32 &&& (1431655765 : Int32))) &&& (858993459 : Int32)) + ((((a0 - ((a0.toUInt32 >>> (((1 : Int32)).toUInt32 &&& Int32.toUInt32 31)).toInt32 &&& (1431655765 : Int32)))).toUInt32 >>> (((2 : Int32)).toUInt32 &&& Int32.toUInt32 31)).toInt32 &&& (858993459 : Int32)))).toUInt32 >>> (((4 : Int32)).toUInt32 &&& Int32.toUInt32 31)).toInt32) &&& (252645135 : Int32)) + (((((((a0 - ((a0.toUInt32 >>> (((1 : Int32)).toUInt32 &&& Int32.toUInt32 31)).toInt32 &&& (1431655765 : Int32))) &&& (858993459 : Int32)) + ((((a0 - ((a0.toUInt32 >>> (((1 : Int32)).toUInt32 &&& Int32.toUInt32 31)).toInt32 &&& (1431655765 : Int32)))).toUInt32 >>> (((2 : Int32)).toUInt32 &&& Int32.toUInt32 31)).toInt32 &&& (858993459 : Int32))) + (((((a0 - ((a0.toUInt32 >>> (((1 : Int32)).toUInt32 &&& Int32.toUInt32 31)).toInt32 &&& (1431655765 : Int32))) &&& (858993459 : Int32)) + ((((a0 - ((a0.toUInt32 >>> (((1 : Int32)).toUInt32 &&& Int32.toUInt32 31)).toInt32 &&& (1431655765 : Int32)))).toUInt32 >>> (((2 : Int32)).toUInt32 &&& Int32.toUInt32 31)).toInt32 &&& (858993459 : Int32)))).toUInt32 >>> (((4 : Int32)).toUInt32 &&& Int32.toUInt32 31)).toInt32) &&& (252645135 : Int32))).toUInt32 >>> (((8 : Int32)).toUInt32 &&& Int32.toUInt32 31)).toInt32)))]) rfl (by decide) (by decide +kernel) ?_
  refine q_iload_n C (k4 := 0) 0 rfl (by decide +kernel) ?_
  refine q_iload_n C (k4 := 0) 0 rfl (by decide +kernel) ?_
  refine q_bipush C (n := 16) (v := 16) (by decide) (by decide +kernel) ?_
  refine q_iushr C (by decide +kernel) ?_
  refine q_iadd C (by decide +kernel) ?_
  refine q_istore_n C Rm.1 (k4 := 0) (i := 0) rfl (lv' := [(0, .int ((((((((a0 - ((a0.toUInt32 >>> (((1 : Int32)).toUInt32 &&& Int32.toUInt32 31)).toInt32 &&& (1431655765 : Int32))) &&& (858993459 : Int32)) + ((((a0 - ((a0.toUInt32 >>> (((1 : Int32)).toUInt32 &&& Int32.toUInt32 31)).toInt32 &&& (1431655765 : Int32)))).toUInt32 >>> (((2 : Int32)).toUInt32 &&& Int32.toUInt32 31)).toInt32 &&& (858993459 : Int32))) + (((((a0 - ((a0.toUInt32 >>> (((1 : Int32)).toUInt32 &&& Int32.toUInt32 31)).toInt32 &&& (1431655765 : Int32))) &&& (858993459 : Int32)) + ((((a0 - ((a0.toUInt32 >>> (((1 : Int32)).toUInt32 &&& Int32.toUInt32 31)).toInt32 &&& (1431655765 : Int32)))).toUInt32 >>> (((2 : Int32)).toUInt32 &&& Int32.toUInt32 31)).toInt32 &&& (858993459 : Int32)))).toUInt32 >>> (((4 : Int32)).toUInt32 &&& Int32.toUInt32 31)).toInt32) &&& (252645135 : Int32)) + (((((((a0 - ((a0.toUInt32 >>> (((1 : Int32)).toUInt32 &&& Int32.toUInt32 31)).toInt32 &&& (1431655765 : Int32))) &&& (858993459 : Int32)) + ((((a0 - ((a0.toUInt32 >>> (((1 : Int32)).toUInt32 &&& Int32.toUInt32 31)).toInt32 &&& (1431655765 : Int32)))).toUInt32 >>> (((2 : Int32)).toUInt32 &&& Int32.toUInt32 31)).toInt32 &&& (858993459 : Int32))) + (((((a0 - ((a0.toUInt32 >>> (((1 : Int32)).toUInt32 &&& Int32.toUInt32 31)).toInt32 &&& (1431655765 : Int32))) &&& (858993459 : Int32)) + ((((a0 - ((a0.toUInt32 >>> (((1 : Int32)).toUInt32 &&& Int32.toUInt32 31)).toInt32 &&& (1431655765 : Int32)))).toUInt32 >>> (((2 : Int32)).toUInt32 &&& Int32.toUInt32 31)).toInt32 &&& (858993459 : Int32)))).toUInt32 >>> (((4 : Int32)).toUInt32 &&& Int32.toUInt32 31)).toInt32) &&& (252645135 : Int32))).toUInt32 >>> (((8 : Int32)).toUInt32 &&& Int32.toUInt32 31)).toInt32) + ((((((((a0 - ((a0.toUInt32 >>> (((1 : Int32)).toUInt32 &&& Int32.toUInt32 31)).toInt32 &&& (1431655765 : Int32))) &&& (858993459 : Int32)) + ((((a0 - ((a0.toUInt32 >>> (((1 : Int32)).toUInt32 &&& Int32.toUInt32 31)).toInt32 &&& (1431655765 : Int32)))).toUInt32 >>> (((2 : Int32)).toUInt32 &&& Int32.toUInt32 31)).toInt32 &&& (858993459 : Int32))) + (((((a0 - ((a0.toUInt32 >>> (((1 : Int32)).toUInt32 &&& Int32.toUInt32 31)).toInt32 &&& (1431655765 : Int32))) &&& (858993459 : Int32)) + ((((a0 - ((a0.toUInt32 >>> (((1 : Int32)).toUInt32 &&& Int32.toUInt32 31)).toInt32 &&& (1431655765 : Int32)))).toUInt32 >>> (((2 : Int32)).toUInt32 &&& Int32.toUInt32 31)).toInt32 &&& (858993459 : Int32)))).toUInt32 >>> (((4 : Int32)).toUInt32 &&& Int32.toUInt32 31)).toInt32) &&& (252645135 : Int32)) + (((((((a0 - ((a0.toUInt32 >>> (((1 : Int32)).toUInt32 &&& Int32.toUInt32 31)).toInt32 &&& (1431655765 : Int32))) &&& (858993459 : Int32)) + ((((a0 - ((a0.toUInt32 >>> (((1 : Int32)).toUInt32 &&& Int32.toUInt32 31)).toInt32 &&& (1431655765 : Int32)))).toUInt32 >>> (((2 : Int32)).toUInt32 &&& Int32.toUInt32 31)).toInt32 &&& (858993459 : Int32))) + (((((a0 - ((a0.toUInt32 >>> (((1 : Int32)).toUInt32 &&& Int32.toUInt32 31)).toInt32 &&& (1431655765 : Int32))) &&& (858993459 : Int32)) + ((((a0 - ((a0.toUInt32 >>> (((1 : Int32)).toUInt32 &&& Int32.toUInt32 31)).toInt32 &&& (1431655765 : Int32)))).toUInt32 >>> (((2 : Int32)).toUInt32 &&& Int32.toUInt32 31)).toInt32 &&& (858993459 : Int32)))).toUInt32 >>> (((4 : Int32)).toUInt32 &&& Int32.toUInt32 31)).toInt32) &&& (252645135 : Int32))).toUInt32 >>> (((8 : Int32)).toUInt32 &&& Int32.toUInt32 31)).toInt32)).toUInt32 >>> (((16 : Int32)).toUInt32 &&& Int32.toUInt32 31)).toInt32)))]) rfl (by decide) (by decide +kernel) ?_
  refine q_iload_n C (k4 := 0) 0 rfl (by decide +kernel) ?_
  refine q_bipush C (n := 63) (v := 63) (by decide) (by decide +kernel) ?_
  refine q_iand C (by decide +kernel) ?_
  exact q_riP hm K rfl (by decide +kernel)
def m_X10_stands (h0 : q_H) (a0 : Nat) (a1 : Int32) : Option Int32 :=
  (q_gi h0 a0 10 2).bind fun v1 =>
  if ((v1 >>> (a1 &&& 31)) &&& (1 : Int32)) = (1 : Int32) then
    some ((1 : Int32))
  else
    some ((0 : Int32))
set_option maxRecDepth 20000 in
set_option maxHeartbeats 1000000 in
theorem c_X10_stands (l : Launch) (base : Nat) (D : va_G) (tc : Nat → ClassId) (sz : Nat) (h0 : q_H) (a0 : Nat) (a1 : Int32) {r : Int32} (hm : m_X10_stands h0 a0 a1 = some r) : q_M l yX10_stands cX10_stands 2 (some .boolean) 0 0 0 0 base D tc [.ref a0, .int a1] sz h0 (some (.int r)) sz h0 := by
  refine q_starti (by decide) (Nat.le_of_ble_eq_true rfl) (fun Γ B K => ?_)
  obtain ⟨C, Rm, -⟩ := B
  have C : q_C Γ cX10_stands RX10 := C
  show q_V Γ sz 0 0 h0 [(0, .ref a0), (1, .int a1)] [] 0
  unfold m_X10_stands at hm
  refine q_aload_n C (k4 := 0) 0 rfl (by decide +kernel) ?_
  refine q_geti C fl_10_38 hm (by decide +kernel) (fun v1 hm => ?_)
  refine q_iload_n C (k4 := 1) 1 rfl (by decide +kernel) ?_
  refine q_ishr C (by decide +kernel) ?_
  refine q_iconst C (n := 1) (v := 1) (by decide) (by decide +kernel) ?_
  refine q_iand C (by decide +kernel) ?_
  refine q_iconst C (n := 1) (v := 1) (by decide) (by decide +kernel) ?_
  refine q_icmp_ne C (off := 7) 16 hm (by decide +kernel) (by decide) (fun _ hm => ?_) (fun _ hm => ?_)
  · refine q_iconst C (n := 0) (v := 0) (by decide) (by decide +kernel) ?_
    exact q_riP hm K q_z0 (by decide +kernel)
  · refine q_iconst C (n := 1) (v := 1) (by decide) (by decide +kernel) ?_
    refine q_goto C (off := 4) 17 (by decide +kernel) (by decide) ?_
    exact q_riP hm K q_z1 (by decide +kernel)
def m_X10_towards (h0 : q_H) (a0 : Nat) (a1 : Int32) : Option Int32 :=
  if a1 = 0 then
    (q_gi h0 a0 10 0).bind fun v2 =>
    some ((0 - v2))
  else
    (q_gi h0 a0 10 0).bind fun v1 =>
    some v1
set_option maxRecDepth 20000 in
set_option maxHeartbeats 1000000 in
theorem c_X10_towards (l : Launch) (base : Nat) (D : va_G) (tc : Nat → ClassId) (sz : Nat) (h0 : q_H) (a0 : Nat) (a1 : Int32) {r : Int32} (hm : m_X10_towards h0 a0 a1 = some r) : q_M l yX10_towards cX10_towards 2 (some .int) 0 0 0 0 base D tc [.ref a0, .int a1] sz h0 (some (.int r)) sz h0 := by
  refine q_starti (by decide) (Nat.le_of_ble_eq_true rfl) (fun Γ B K => ?_)
  obtain ⟨C, Rm, -⟩ := B
  have C : q_C Γ cX10_towards RX10 := C
  show q_V Γ sz 0 0 h0 [(0, .ref a0), (1, .int a1)] [] 0
  unfold m_X10_towards at hm
  refine q_iload_n C (k4 := 1) 1 rfl (by decide +kernel) ?_
  refine q_if_ne C (off := 11) 12 hm (by decide +kernel) (by decide) (fun _ hm => ?_) (fun _ hm => ?_)
  · refine q_aload_n C (k4 := 0) 0 rfl (by decide +kernel) ?_
    refine q_geti C fl_10_30 hm (by decide +kernel) (fun v1 hm => ?_)
    exact q_riP hm K rfl (by decide +kernel)
  · refine q_aload_n C (k4 := 0) 0 rfl (by decide +kernel) ?_
    refine q_geti C fl_10_30 hm (by decide +kernel) (fun v2 hm => ?_)
    refine q_ineg C (by decide +kernel) ?_
    refine q_goto C (off := 7) 16 (by decide +kernel) (by decide) ?_
    exact q_riP hm K rfl (by decide +kernel)
def m_X1_tellWords (h : q_H) (a0 : Nat) (a1 : Nat) (a2 : Int32) : Option q_H :=
  (q_gn h a1 10 3).bind fun v1 =>
  (q_ai h v1 1 a2).bind fun v2 =>
  (q_gn h a0 1 5).bind fun v3 =>
  (q_sl h v3 ((0 : Int32)) a2.toInt64).bind fun h4 =>
  (q_gn h4 a0 1 5).bind fun v5 =>
  (q_sl h4 v5 ((1 : Int32)) v2.toInt64).bind fun h6 =>
  (q_gn h6 a0 1 5).bind fun v7 =>
  (q_gn h6 a0 1 0).bind fun v8 =>
  (q_gn h6 v8 4 5).bind fun v9 =>
  (q_ai h6 v9 1 a2).bind fun v10 =>
  (q_sl h6 v7 ((2 : Int32)) v10.toInt64).bind fun h11 =>
  (q_gn h11 a0 1 5).bind fun v12 =>
  (q_gn h11 a1 10 5).bind fun v13 =>
  (q_ai h11 v13 1 a2).bind fun v14 =>
  (q_sl h11 v12 ((3 : Int32)) v14.toInt64).bind fun h15 =>
  (q_gn h15 a0 1 5).bind fun v16 =>
  (q_gn h15 a0 1 0).bind fun v17 =>
  (q_gn h15 v17 4 7).bind fun v18 =>
  (q_ai h15 v18 1 a2).bind fun v19 =>
  (q_sl h15 v16 ((4 : Int32)) v19.toInt64).bind fun h20 =>
  (q_gn h20 a0 1 5).bind fun v21 =>
  (q_gn h20 a1 10 4).bind fun v22 =>
  (q_ai h20 v22 1 a2).bind fun v23 =>
  (q_sl h20 v21 ((5 : Int32)) v23.toInt64).bind fun h24 =>
  (q_gn h24 a0 1 5).bind fun v25 =>
  (q_gn h24 a0 1 4).bind fun v26 =>
  (q_ai h24 v26 1 v2).bind fun v27 =>
  (q_sl h24 v25 ((6 : Int32)) (((v27 - (1 : Int32))).toInt64)).bind fun h28 =>
  (q_gn h28 a0 1 5).bind fun v29 =>
  (q_ca 10 h28 a1 (m_X10_towards h28 a1 v2)).bind fun r30 =>
  (q_sl h28 v29 ((7 : Int32)) r30.toInt64).bind fun h32 =>
  (q_gn h32 a0 1 5).bind fun v33 =>
  (q_gn h32 a0 1 0).bind fun v34 =>
  (q_gi h32 v34 4 0).bind fun v35 =>
  (q_sl h32 v33 ((8 : Int32)) v35.toInt64).bind fun h36 =>
  (q_gn h36 a0 1 5).bind fun v37 =>
  (q_gn h36 a1 10 6).bind fun v38 =>
  (q_ai h36 v38 1 a2).bind fun v39 =>
  (q_sl h36 v37 ((9 : Int32)) v39.toInt64).bind fun h40 =>
  (q_gn h40 a0 1 5).bind fun v41 =>
  (q_gi h40 a1 10 1).bind fun v42 =>
  (q_sl h40 v41 ((10 : Int32)) v42.toInt64).bind fun h43 =>
  some h43
set_option maxRecDepth 20000 in
set_option maxHeartbeats 1000000 in
theorem c_X1_tellWords (l : Launch) (base : Nat) (D : va_G) (tc : Nat → ClassId) (sz : Nat) (h : q_H) (a0 : Nat) (a1 : Nat) (a2 : Int32) {h' : q_H} (hm : m_X1_tellWords h a0 a1 a2 = some h') : q_M l yX1_tellWords cX1_tellWords 4 none 1 21 0 0 base D tc [.ref a0, .ref a1, .int a2] sz h none sz h' := by
  refine q_startv (by decide) (Nat.le_of_ble_eq_true rfl) (fun Γ B K => ?_)
  obtain ⟨C, Rm, -⟩ := B
  have C : q_C Γ cX1_tellWords RX1 := C
  show q_V Γ sz 0 0 h [(0, .ref a0), (1, .ref a1), (2, .int a2)] [] 0
  unfold m_X1_tellWords at hm
  refine q_aload_n C (k4 := 1) 1 rfl (by decide +kernel) ?_
  refine q_getn C fl_1_128 hm (by decide +kernel) (fun v1 hm => ?_)
  refine q_iload_n C (k4 := 2) 2 rfl (by decide +kernel) ?_
  refine q_ir C hm (by decide +kernel) (fun v2 hm => ?_)
  refine q_istore_n C Rm.1 (k4 := 3) (i := 3) rfl (lv' := [(3, .int v2), (0, .ref a0), (1, .ref a1), (2, .int a2)]) rfl (by decide) (by decide +kernel) ?_
  refine q_aload_n C (k4 := 0) 1 rfl (by decide +kernel) ?_
  refine q_getn C fl_1_23 hm (by decide +kernel) (fun v3 hm => ?_)
  refine q_iconst C (n := 0) (v := 0) (by decide) (by decide +kernel) ?_
  refine q_iload_n C (k4 := 2) 3 rfl (by decide +kernel) ?_
  refine q_i2l C (by decide +kernel) ?_
  refine q_lw C hm (by decide +kernel) (fun h4 hm => ?_)
  refine q_aload_n C (k4 := 0) 1 rfl (by decide +kernel) ?_
  refine q_getn C fl_1_23 hm (by decide +kernel) (fun v5 hm => ?_)
  refine q_iconst C (n := 1) (v := 1) (by decide) (by decide +kernel) ?_
  refine q_iload_n C (k4 := 3) 0 rfl (by decide +kernel) ?_
  refine q_i2l C (by decide +kernel) ?_
  refine q_lw C hm (by decide +kernel) (fun h6 hm => ?_)
  refine q_aload_n C (k4 := 0) 1 rfl (by decide +kernel) ?_
  refine q_getn C fl_1_23 hm (by decide +kernel) (fun v7 hm => ?_)
  refine q_iconst C (n := 2) (v := 2) (by decide) (by decide +kernel) ?_
  refine q_aload_n C (k4 := 0) 1 rfl (by decide +kernel) ?_
  refine q_getn C fl_1_30 hm (by decide +kernel) (fun v8 hm => ?_)
  refine q_getn C fl_1_131 hm (by decide +kernel) (fun v9 hm => ?_)
  refine q_iload_n C (k4 := 2) 3 rfl (by decide +kernel) ?_
  refine q_ir C hm (by decide +kernel) (fun v10 hm => ?_)
  refine q_i2l C (by decide +kernel) ?_
  refine q_lw C hm (by decide +kernel) (fun h11 hm => ?_)
  refine q_aload_n C (k4 := 0) 1 rfl (by decide +kernel) ?_
  refine q_getn C fl_1_23 hm (by decide +kernel) (fun v12 hm => ?_)
  refine q_iconst C (n := 3) (v := 3) (by decide) (by decide +kernel) ?_
  refine q_aload_n C (k4 := 1) 2 rfl (by decide +kernel) ?_
  refine q_getn C fl_1_120 hm (by decide +kernel) (fun v13 hm => ?_)
  refine q_iload_n C (k4 := 2) 3 rfl (by decide +kernel) ?_
  refine q_ir C hm (by decide +kernel) (fun v14 hm => ?_)
  refine q_i2l C (by decide +kernel) ?_
  refine q_lw C hm (by decide +kernel) (fun h15 hm => ?_)
  refine q_aload_n C (k4 := 0) 1 rfl (by decide +kernel) ?_
  refine q_getn C fl_1_23 hm (by decide +kernel) (fun v16 hm => ?_)
  refine q_iconst C (n := 4) (v := 4) (by decide) (by decide +kernel) ?_
  refine q_aload_n C (k4 := 0) 1 rfl (by decide +kernel) ?_
  refine q_getn C fl_1_30 hm (by decide +kernel) (fun v17 hm => ?_)
  refine q_getn C fl_1_134 hm (by decide +kernel) (fun v18 hm => ?_)
  refine q_iload_n C (k4 := 2) 3 rfl (by decide +kernel) ?_
  refine q_ir C hm (by decide +kernel) (fun v19 hm => ?_)
  refine q_i2l C (by decide +kernel) ?_
  refine q_lw C hm (by decide +kernel) (fun h20 hm => ?_)
  refine q_aload_n C (k4 := 0) 1 rfl (by decide +kernel) ?_
  refine q_getn C fl_1_23 hm (by decide +kernel) (fun v21 hm => ?_)
  refine q_iconst C (n := 5) (v := 5) (by decide) (by decide +kernel) ?_
  refine q_aload_n C (k4 := 1) 2 rfl (by decide +kernel) ?_
  refine q_getn C fl_1_137 hm (by decide +kernel) (fun v22 hm => ?_)
  refine q_iload_n C (k4 := 2) 3 rfl (by decide +kernel) ?_
  refine q_ir C hm (by decide +kernel) (fun v23 hm => ?_)
  refine q_i2l C (by decide +kernel) ?_
  refine q_lw C hm (by decide +kernel) (fun h24 hm => ?_)
  refine q_aload_n C (k4 := 0) 1 rfl (by decide +kernel) ?_
  refine q_getn C fl_1_23 hm (by decide +kernel) (fun v25 hm => ?_)
  refine q_bipush C (n := 6) (v := 6) (by decide) (by decide +kernel) ?_
  refine q_aload_n C (k4 := 0) 1 rfl (by decide +kernel) ?_
  refine q_getn C fl_1_18 hm (by decide +kernel) (fun v26 hm => ?_)
  refine q_iload_n C (k4 := 3) 0 rfl (by decide +kernel) ?_
  refine q_ir C hm (by decide +kernel) (fun v27 hm => ?_)
  refine q_iconst C (n := 1) (v := 1) (by decide) (by decide +kernel) ?_
  refine q_isub C (by decide +kernel) ?_
  refine q_i2l C (by decide +kernel) ?_
  refine q_lw C hm (by decide +kernel) (fun h28 hm => ?_)
  refine q_aload_n C (k4 := 0) 1 rfl (by decide +kernel) ?_
  refine q_getn C fl_1_23 hm (by decide +kernel) (fun v29 hm => ?_)
  refine q_bipush C (n := 7) (v := 7) (by decide) (by decide +kernel) ?_
  refine q_aload_n C (k4 := 1) 2 rfl (by decide +kernel) ?_
  refine q_iload_n C (k4 := 3) 0 rfl (by decide +kernel) ?_
  refine q_viP C Rm (As := [.int v2]) (rest := [.int ((7 : Int32)), .ref v29]) Y_X10_towards Yv_X10_towards ml_X1_140 (by decide) (by decide) hm (fun r9 e9 => c_X10_towards _ _ _ _ _ _ _ _ e9) rfl rfl (Nat.le_of_ble_eq_true rfl) (by decide +kernel) (fun r30 hm z31 => ?_)
  refine q_i2l C (by decide +kernel) ?_
  refine q_lw C hm (by decide +kernel) (fun h32 hm => ?_)
  refine q_aload_n C (k4 := 0) 1 rfl (by decide +kernel) ?_
  refine q_getn C fl_1_23 hm (by decide +kernel) (fun v33 hm => ?_)
  refine q_bipush C (n := 8) (v := 8) (by decide) (by decide +kernel) ?_
  refine q_aload_n C (k4 := 0) 1 rfl (by decide +kernel) ?_
  refine q_getn C fl_1_30 hm (by decide +kernel) (fun v34 hm => ?_)
  refine q_geti C fl_1_44 hm (by decide +kernel) (fun v35 hm => ?_)
  refine q_i2l C (by decide +kernel) ?_
  refine q_lw C hm (by decide +kernel) (fun h36 hm => ?_)
  refine q_aload_n C (k4 := 0) 1 rfl (by decide +kernel) ?_
  refine q_getn C fl_1_23 hm (by decide +kernel) (fun v37 hm => ?_)
  refine q_bipush C (n := 9) (v := 9) (by decide) (by decide +kernel) ?_
  refine q_aload_n C (k4 := 1) 2 rfl (by decide +kernel) ?_
  refine q_getn C fl_1_143 hm (by decide +kernel) (fun v38 hm => ?_)
  refine q_iload_n C (k4 := 2) 3 rfl (by decide +kernel) ?_
  refine q_ir C hm (by decide +kernel) (fun v39 hm => ?_)
  refine q_i2l C (by decide +kernel) ?_
  refine q_lw C hm (by decide +kernel) (fun h40 hm => ?_)
  refine q_aload_n C (k4 := 0) 1 rfl (by decide +kernel) ?_
  refine q_getn C fl_1_23 hm (by decide +kernel) (fun v41 hm => ?_)
  refine q_bipush C (n := 10) (v := 10) (by decide) (by decide +kernel) ?_
  refine q_aload_n C (k4 := 1) 2 rfl (by decide +kernel) ?_
  refine q_geti C fl_1_90 hm (by decide +kernel) (fun v42 hm => ?_)
  refine q_i2l C (by decide +kernel) ?_
  refine q_lw C hm (by decide +kernel) (fun h43 hm => ?_)
  exact q_rvS hm K (by decide +kernel)
def m_X6_joined (a0 : Int32) (a1 : Int64) (a3 : Int64) : Option Int64 :=
  if a0 = 2 then
    some ((a1 ||| a3))
  else
  if a0 = 3 then
    some ((a1 &&& a3))
  else
  if a0 = 4 then
    if (lg_cmp a1 a3) ≤ 0 then
      some ((0 : Int64))
    else
      some ((1 : Int64))
  else
  if a0 = 5 then
    some ((a1 + a3))
  else
  if a0 = 6 then
    some ((a1 - a3))
  else
  if a0 = 7 then
    some ((a1 * a3))
  else
  if a0 = 8 then
    if (lg_cmp a3 ((0 : Int64))) = 0 then
      some ((0 : Int64))
    else
      if a3 = 0 then none else
      some ((a1 / a3))
  else
  if a0 = 9 then
    if (lg_cmp a3 ((0 : Int64))) = 0 then
      some ((0 : Int64))
    else
      if a3 = 0 then none else
      some ((q_rml a1 a3))
  else
  if a0 = 10 then
    if 0 ≤ (lg_cmp a1 a3) then
      some ((0 : Int64))
    else
      some ((1 : Int64))
  else
  if a0 = 11 then
    if 0 < (lg_cmp a1 a3) then
      some ((0 : Int64))
    else
      some ((1 : Int64))
  else
  if a0 = 12 then
    if (lg_cmp a1 a3) = 0 then
      some ((1 : Int64))
    else
      some ((0 : Int64))
  else
  if a0 = 13 then
    if (lg_cmp a1 a3) < 0 then
      some ((0 : Int64))
    else
      some ((1 : Int64))
  else
  if (lg_cmp a1 a3) ≤ 0 then
    some ((0 : Int64))
  else
    some ((1 : Int64))
set_option maxRecDepth 20000 in
set_option maxHeartbeats 1000000 in
theorem c_X6_joined (l : Launch) (base : Nat) (D : va_G) (tc : Nat → ClassId) (sz : Nat) (h0 : q_H) (a0 : Int32) (a1 : Int64) (a3 : Int64) {r : Int64} (hm : m_X6_joined a0 a1 a3 = some r) : q_M l yX6_joined cX6_joined 5 (some .long) 0 0 0 0 base D tc [.int a0, .long a1, .long a3] sz h0 (some (.long r)) sz h0 := by
  refine q_startl (by decide) (Nat.le_of_ble_eq_true rfl) (fun Γ B K => ?_)
  obtain ⟨C, Rm, -⟩ := B
  have C : q_C Γ cX6_joined RX6 := C
  show q_V Γ sz 0 0 h0 [(0, .int a0), (1, .long a1), (3, .long a3)] [] 0
  unfold m_X6_joined at hm
  refine q_iload_n C (k4 := 0) 0 rfl (by decide +kernel) ?_
  by_cases c1_0 : a0 = 2
  · rw [if_pos c1_0] at hm
    refine q_tsIn C (dflt := 159) (lo := 2) (hi := 13) (offs := #[63, 67, 159, 71, 75, 79, 83, 97, 111, 123, 135, 147]) (len := 63) (63) 64 (by decide +kernel) (by rw [c1_0]; decide) (by rw [c1_0]; decide) (by rw [c1_0]; decide) (by decide) ?_
    refine q_lload_n C (k4 := 1) 1 rfl (by decide +kernel) ?_
    refine q_lload_n C (k4 := 3) 2 rfl (by decide +kernel) ?_
    refine q_lor C (by decide +kernel) ?_
    exact q_rlP hm K (by decide +kernel)
  rw [if_neg c1_0] at hm
  by_cases c1_1 : a0 = 3
  · rw [if_pos c1_1] at hm
    refine q_tsIn C (dflt := 159) (lo := 2) (hi := 13) (offs := #[63, 67, 159, 71, 75, 79, 83, 97, 111, 123, 135, 147]) (len := 63) (67) 68 (by decide +kernel) (by rw [c1_1]; decide) (by rw [c1_1]; decide) (by rw [c1_1]; decide) (by decide) ?_
    refine q_lload_n C (k4 := 1) 1 rfl (by decide +kernel) ?_
    refine q_lload_n C (k4 := 3) 2 rfl (by decide +kernel) ?_
    refine q_land C (by decide +kernel) ?_
    exact q_rlP hm K (by decide +kernel)
  rw [if_neg c1_1] at hm
  by_cases c1_2 : a0 = 4
  · rw [if_pos c1_2] at hm
    refine q_tsIn C (dflt := 159) (lo := 2) (hi := 13) (offs := #[63, 67, 159, 71, 75, 79, 83, 97, 111, 123, 135, 147]) (len := 63) (159) 160 (by decide +kernel) (by rw [c1_2]; decide) (by rw [c1_2]; decide) (by rw [c1_2]; decide) (by decide) ?_
    refine q_lload_n C (k4 := 1) 1 rfl (by decide +kernel) ?_
    refine q_lload_n C (k4 := 3) 2 rfl (by decide +kernel) ?_
    refine q_lcmp C (by decide +kernel) ?_
    refine q_if_le C (off := 7) 170 hm (by decide +kernel) (by decide) (fun _ hm => ?_) (fun _ hm => ?_)
    · refine q_lconst C (n := 0) (v := 0) (by decide) (by decide +kernel) ?_
      exact q_rlP hm K (by decide +kernel)
    · refine q_lconst C (n := 1) (v := 1) (by decide) (by decide +kernel) ?_
      refine q_goto C (off := 4) 171 (by decide +kernel) (by decide) ?_
      exact q_rlP hm K (by decide +kernel)
  rw [if_neg c1_2] at hm
  by_cases c1_3 : a0 = 5
  · rw [if_pos c1_3] at hm
    refine q_tsIn C (dflt := 159) (lo := 2) (hi := 13) (offs := #[63, 67, 159, 71, 75, 79, 83, 97, 111, 123, 135, 147]) (len := 63) (71) 72 (by decide +kernel) (by rw [c1_3]; decide) (by rw [c1_3]; decide) (by rw [c1_3]; decide) (by decide) ?_
    refine q_lload_n C (k4 := 1) 1 rfl (by decide +kernel) ?_
    refine q_lload_n C (k4 := 3) 2 rfl (by decide +kernel) ?_
    refine q_ladd C (by decide +kernel) ?_
    exact q_rlP hm K (by decide +kernel)
  rw [if_neg c1_3] at hm
  by_cases c1_4 : a0 = 6
  · rw [if_pos c1_4] at hm
    refine q_tsIn C (dflt := 159) (lo := 2) (hi := 13) (offs := #[63, 67, 159, 71, 75, 79, 83, 97, 111, 123, 135, 147]) (len := 63) (75) 76 (by decide +kernel) (by rw [c1_4]; decide) (by rw [c1_4]; decide) (by rw [c1_4]; decide) (by decide) ?_
    refine q_lload_n C (k4 := 1) 1 rfl (by decide +kernel) ?_
    refine q_lload_n C (k4 := 3) 2 rfl (by decide +kernel) ?_
    refine q_lsub C (by decide +kernel) ?_
    exact q_rlP hm K (by decide +kernel)
  rw [if_neg c1_4] at hm
  by_cases c1_5 : a0 = 7
  · rw [if_pos c1_5] at hm
    refine q_tsIn C (dflt := 159) (lo := 2) (hi := 13) (offs := #[63, 67, 159, 71, 75, 79, 83, 97, 111, 123, 135, 147]) (len := 63) (79) 80 (by decide +kernel) (by rw [c1_5]; decide) (by rw [c1_5]; decide) (by rw [c1_5]; decide) (by decide) ?_
    refine q_lload_n C (k4 := 1) 1 rfl (by decide +kernel) ?_
    refine q_lload_n C (k4 := 3) 2 rfl (by decide +kernel) ?_
    refine q_lmul C (by decide +kernel) ?_
    exact q_rlP hm K (by decide +kernel)
  rw [if_neg c1_5] at hm
  by_cases c1_6 : a0 = 8
  · rw [if_pos c1_6] at hm
    refine q_tsIn C (dflt := 159) (lo := 2) (hi := 13) (offs := #[63, 67, 159, 71, 75, 79, 83, 97, 111, 123, 135, 147]) (len := 63) (83) 84 (by decide +kernel) (by rw [c1_6]; decide) (by rw [c1_6]; decide) (by rw [c1_6]; decide) (by decide) ?_
    refine q_lload_n C (k4 := 3) 2 rfl (by decide +kernel) ?_
    refine q_lconst C (n := 0) (v := 0) (by decide) (by decide +kernel) ?_
    refine q_lcmp C (by decide +kernel) ?_
    refine q_if_ne C (off := 7) 94 hm (by decide +kernel) (by decide) (fun _ hm => ?_) (fun _ hm => ?_)
    · refine q_lload_n C (k4 := 1) 1 rfl (by decide +kernel) ?_
      refine q_lload_n C (k4 := 3) 2 rfl (by decide +kernel) ?_
      refine q_ldivc C hm (by decide +kernel) (fun hm => ?_)
      exact q_rlP hm K (by decide +kernel)
    · refine q_lconst C (n := 0) (v := 0) (by decide) (by decide +kernel) ?_
      refine q_goto C (off := 6) 97 (by decide +kernel) (by decide) ?_
      exact q_rlP hm K (by decide +kernel)
  rw [if_neg c1_6] at hm
  by_cases c1_7 : a0 = 9
  · rw [if_pos c1_7] at hm
    refine q_tsIn C (dflt := 159) (lo := 2) (hi := 13) (offs := #[63, 67, 159, 71, 75, 79, 83, 97, 111, 123, 135, 147]) (len := 63) (97) 98 (by decide +kernel) (by rw [c1_7]; decide) (by rw [c1_7]; decide) (by rw [c1_7]; decide) (by decide) ?_
    refine q_lload_n C (k4 := 3) 2 rfl (by decide +kernel) ?_
    refine q_lconst C (n := 0) (v := 0) (by decide) (by decide +kernel) ?_
    refine q_lcmp C (by decide +kernel) ?_
    refine q_if_ne C (off := 7) 108 hm (by decide +kernel) (by decide) (fun _ hm => ?_) (fun _ hm => ?_)
    · refine q_lload_n C (k4 := 1) 1 rfl (by decide +kernel) ?_
      refine q_lload_n C (k4 := 3) 2 rfl (by decide +kernel) ?_
      refine q_lremc C hm (by decide +kernel) (fun hm => ?_)
      exact q_rlP hm K (by decide +kernel)
    · refine q_lconst C (n := 0) (v := 0) (by decide) (by decide +kernel) ?_
      refine q_goto C (off := 6) 111 (by decide +kernel) (by decide) ?_
      exact q_rlP hm K (by decide +kernel)
  rw [if_neg c1_7] at hm
  by_cases c1_8 : a0 = 10
  · rw [if_pos c1_8] at hm
    refine q_tsIn C (dflt := 159) (lo := 2) (hi := 13) (offs := #[63, 67, 159, 71, 75, 79, 83, 97, 111, 123, 135, 147]) (len := 63) (111) 112 (by decide +kernel) (by rw [c1_8]; decide) (by rw [c1_8]; decide) (by rw [c1_8]; decide) (by decide) ?_
    refine q_lload_n C (k4 := 1) 1 rfl (by decide +kernel) ?_
    refine q_lload_n C (k4 := 3) 2 rfl (by decide +kernel) ?_
    refine q_lcmp C (by decide +kernel) ?_
    refine q_if_ge C (off := 7) 122 hm (by decide +kernel) (by decide) (fun _ hm => ?_) (fun _ hm => ?_)
    · refine q_lconst C (n := 0) (v := 0) (by decide) (by decide +kernel) ?_
      exact q_rlP hm K (by decide +kernel)
    · refine q_lconst C (n := 1) (v := 1) (by decide) (by decide +kernel) ?_
      refine q_goto C (off := 4) 123 (by decide +kernel) (by decide) ?_
      exact q_rlP hm K (by decide +kernel)
  rw [if_neg c1_8] at hm
  by_cases c1_9 : a0 = 11
  · rw [if_pos c1_9] at hm
    refine q_tsIn C (dflt := 159) (lo := 2) (hi := 13) (offs := #[63, 67, 159, 71, 75, 79, 83, 97, 111, 123, 135, 147]) (len := 63) (123) 124 (by decide +kernel) (by rw [c1_9]; decide) (by rw [c1_9]; decide) (by rw [c1_9]; decide) (by decide) ?_
    refine q_lload_n C (k4 := 1) 1 rfl (by decide +kernel) ?_
    refine q_lload_n C (k4 := 3) 2 rfl (by decide +kernel) ?_
    refine q_lcmp C (by decide +kernel) ?_
    refine q_if_gt C (off := 7) 134 hm (by decide +kernel) (by decide) (fun _ hm => ?_) (fun _ hm => ?_)
    · refine q_lconst C (n := 0) (v := 0) (by decide) (by decide +kernel) ?_
      exact q_rlP hm K (by decide +kernel)
    · refine q_lconst C (n := 1) (v := 1) (by decide) (by decide +kernel) ?_
      refine q_goto C (off := 4) 135 (by decide +kernel) (by decide) ?_
      exact q_rlP hm K (by decide +kernel)
  rw [if_neg c1_9] at hm
  by_cases c1_10 : a0 = 12
  · rw [if_pos c1_10] at hm
    refine q_tsIn C (dflt := 159) (lo := 2) (hi := 13) (offs := #[63, 67, 159, 71, 75, 79, 83, 97, 111, 123, 135, 147]) (len := 63) (135) 136 (by decide +kernel) (by rw [c1_10]; decide) (by rw [c1_10]; decide) (by rw [c1_10]; decide) (by decide) ?_
    refine q_lload_n C (k4 := 1) 1 rfl (by decide +kernel) ?_
    refine q_lload_n C (k4 := 3) 2 rfl (by decide +kernel) ?_
    refine q_lcmp C (by decide +kernel) ?_
    refine q_if_ne C (off := 7) 146 hm (by decide +kernel) (by decide) (fun _ hm => ?_) (fun _ hm => ?_)
    · refine q_lconst C (n := 0) (v := 0) (by decide) (by decide +kernel) ?_
      exact q_rlP hm K (by decide +kernel)
    · refine q_lconst C (n := 1) (v := 1) (by decide) (by decide +kernel) ?_
      refine q_goto C (off := 4) 147 (by decide +kernel) (by decide) ?_
      exact q_rlP hm K (by decide +kernel)
  rw [if_neg c1_10] at hm
  by_cases c1_11 : a0 = 13
  · rw [if_pos c1_11] at hm
    refine q_tsIn C (dflt := 159) (lo := 2) (hi := 13) (offs := #[63, 67, 159, 71, 75, 79, 83, 97, 111, 123, 135, 147]) (len := 63) (147) 148 (by decide +kernel) (by rw [c1_11]; decide) (by rw [c1_11]; decide) (by rw [c1_11]; decide) (by decide) ?_
    refine q_lload_n C (k4 := 1) 1 rfl (by decide +kernel) ?_
    refine q_lload_n C (k4 := 3) 2 rfl (by decide +kernel) ?_
    refine q_lcmp C (by decide +kernel) ?_
    refine q_if_lt C (off := 7) 158 hm (by decide +kernel) (by decide) (fun _ hm => ?_) (fun _ hm => ?_)
    · refine q_lconst C (n := 0) (v := 0) (by decide) (by decide +kernel) ?_
      exact q_rlP hm K (by decide +kernel)
    · refine q_lconst C (n := 1) (v := 1) (by decide) (by decide +kernel) ?_
      refine q_goto C (off := 4) 159 (by decide +kernel) (by decide) ?_
      exact q_rlP hm K (by decide +kernel)
  rw [if_neg c1_11] at hm
  have nc1_0 := lv_neT c1_0 (show (2 : Int32).toInt = 2 from by decide)
  have nc1_1 := lv_neT c1_1 (show (3 : Int32).toInt = 3 from by decide)
  have nc1_2 := lv_neT c1_2 (show (4 : Int32).toInt = 4 from by decide)
  have nc1_3 := lv_neT c1_3 (show (5 : Int32).toInt = 5 from by decide)
  have nc1_4 := lv_neT c1_4 (show (6 : Int32).toInt = 6 from by decide)
  have nc1_5 := lv_neT c1_5 (show (7 : Int32).toInt = 7 from by decide)
  have nc1_6 := lv_neT c1_6 (show (8 : Int32).toInt = 8 from by decide)
  have nc1_7 := lv_neT c1_7 (show (9 : Int32).toInt = 9 from by decide)
  have nc1_8 := lv_neT c1_8 (show (10 : Int32).toInt = 10 from by decide)
  have nc1_9 := lv_neT c1_9 (show (11 : Int32).toInt = 11 from by decide)
  have nc1_10 := lv_neT c1_10 (show (12 : Int32).toInt = 12 from by decide)
  have nc1_11 := lv_neT c1_11 (show (13 : Int32).toInt = 13 from by decide)
  refine q_tsOut C (dflt := 159) (lo := 2) (hi := 13) (offs := #[63, 67, 159, 71, 75, 79, 83, 97, 111, 123, 135, 147]) (len := 63) 160 (by decide +kernel) (by omega) (by decide) ?_
  refine q_lload_n C (k4 := 1) 1 rfl (by decide +kernel) ?_
  refine q_lload_n C (k4 := 3) 2 rfl (by decide +kernel) ?_
  refine q_lcmp C (by decide +kernel) ?_
  refine q_if_le C (off := 7) 170 hm (by decide +kernel) (by decide) (fun _ hm => ?_) (fun _ hm => ?_)
  · refine q_lconst C (n := 0) (v := 0) (by decide) (by decide +kernel) ?_
    exact q_rlP hm K (by decide +kernel)
  · refine q_lconst C (n := 1) (v := 1) (by decide) (by decide +kernel) ?_
    refine q_goto C (off := 4) 171 (by decide +kernel) (by decide) ?_
    exact q_rlP hm K (by decide +kernel)
def m_X6_evaluate_174 (k6 : q_H → Nat → Int32 → Nat → Nat → Int32 → Int32 → Option (Int64 × q_H)) (h : q_H) (x0 : Nat) (x2 : Int32) (x3 : Nat) (x4 : Nat) (x5 : Int32) (x6 : Int32) : Option (Int64 × q_H) :=
  k6 h x0 x2 x3 x4 x5 ((x6 + (1 : Int32)))
set_option maxRecDepth 20000 in
set_option maxHeartbeats 1000000 in
theorem v_X6_evaluate_174 {Γ : q_G} {sz : Nat} {r : Int64} {h' : q_H} (C : q_C Γ cX6_evaluate RX6) (Rm : q_Rm Γ 9 1 24 0 0) {k6 : q_H → Nat → Int32 → Nat → Nat → Int32 → Int32 → Option (Int64 × q_H)} (K : q_K Γ cX6_evaluate .lreturn sz h' 0 0 [.long r]) (hk6 : ∀ (h : q_H) (x0 : Nat) (x2 : Int32) (x3 : Nat) (x4 : Nat) (x5 : Int32) (x6 : Int32), k6 h x0 x2 x3 x4 x5 x6 = some (r, h') → q_V Γ sz 0 0 h [(0, .ref x0), (2, .int x2), (3, .ref x3), (4, .ref x4), (5, .int x5), (6, .int x6)] [] 6) : ∀ (h : q_H) (x0 : Nat) (x2 : Int32) (x3 : Nat) (x4 : Nat) (x5 : Int32) (x6 : Int32), m_X6_evaluate_174 k6 h x0 x2 x3 x4 x5 x6 = some (r, h') → q_V Γ sz 0 0 h [(0, .ref x0), (2, .int x2), (3, .ref x3), (4, .ref x4), (5, .int x5), (6, .int x6)] [] 174 := by
  intro h x0 x2 x3 x4 x5 x6 hm
  unfold m_X6_evaluate_174 at hm
  refine q_iinc C Rm.1 (i := 6) (n := 1) (v := (x6 + (1 : Int32))) 5 rfl (q_inc _ (by decide)) (lv' := [(6, .int ((x6 + (1 : Int32)))), (0, .ref x0), (2, .int x2), (3, .ref x3), (4, .ref x4), (5, .int x5)]) rfl (by decide) (by decide +kernel) ?_
  refine q_goto C (off := -171) 6 (by decide +kernel) (by decide) ?_
  refine q_loc [1, 2, 3, 4, 5, 0] rfl ?_
  exact hk6 _ _ _ _ _ _ _ hm
def m_X6_evaluate_101 (k6 : q_H → Nat → Int32 → Nat → Nat → Int32 → Int32 → Option (Int64 × q_H)) (h : q_H) (x0 : Nat) (x2 : Int32) (x3 : Nat) (x4 : Nat) (x5 : Int32) (x6 : Int32) (s0 : Int64) (s1 : Int32) (s2 : Nat) : Option (Int64 × q_H) :=
  (q_sl h s2 s1 s0).bind fun h13 =>
  m_X6_evaluate_174 k6 h13 x0 x2 x3 x4 ((x5 + (1 : Int32))) x6
set_option maxRecDepth 20000 in
set_option maxHeartbeats 1000000 in
theorem v_X6_evaluate_101 {Γ : q_G} {sz : Nat} {r : Int64} {h' : q_H} (C : q_C Γ cX6_evaluate RX6) (Rm : q_Rm Γ 9 1 24 0 0) {k6 : q_H → Nat → Int32 → Nat → Nat → Int32 → Int32 → Option (Int64 × q_H)} (K : q_K Γ cX6_evaluate .lreturn sz h' 0 0 [.long r]) (hk6 : ∀ (h : q_H) (x0 : Nat) (x2 : Int32) (x3 : Nat) (x4 : Nat) (x5 : Int32) (x6 : Int32), k6 h x0 x2 x3 x4 x5 x6 = some (r, h') → q_V Γ sz 0 0 h [(0, .ref x0), (2, .int x2), (3, .ref x3), (4, .ref x4), (5, .int x5), (6, .int x6)] [] 6) : ∀ (h : q_H) (x0 : Nat) (x2 : Int32) (x3 : Nat) (x4 : Nat) (x5 : Int32) (x6 : Int32) (s0 : Int64) (s1 : Int32) (s2 : Nat), m_X6_evaluate_101 k6 h x0 x2 x3 x4 x5 x6 s0 s1 s2 = some (r, h') → q_V Γ sz 0 0 h [(0, .ref x0), (2, .int x2), (3, .ref x3), (4, .ref x4), (5, .int x5), (6, .int x6)] [.long s0, .int s1, .ref s2] 101 := by
  intro h x0 x2 x3 x4 x5 x6 s0 s1 s2 hm
  unfold m_X6_evaluate_101 at hm
  refine q_lw C hm (by decide +kernel) (fun h13 hm => ?_)
  refine q_iinc C Rm.1 (i := 5) (n := 1) (v := (x5 + (1 : Int32))) 4 rfl (q_inc _ (by decide)) (lv' := [(5, .int ((x5 + (1 : Int32)))), (0, .ref x0), (2, .int x2), (3, .ref x3), (4, .ref x4), (6, .int x6)]) rfl (by decide) (by decide +kernel) ?_
  refine q_goto C (off := 69) 174 (by decide +kernel) (by decide) ?_
  refine q_loc [1, 2, 3, 4, 0, 5] rfl ?_
  exact v_X6_evaluate_174 C Rm K hk6 _ _ _ _ _ _ _ hm
def m_X6_evaluate_139 (k6 : q_H → Nat → Int32 → Nat → Nat → Int32 → Int32 → Option (Int64 × q_H)) (h : q_H) (x0 : Nat) (x2 : Int32) (x3 : Nat) (x4 : Nat) (x5 : Int32) (x6 : Int32) (x7 : Int32) : Option (Int64 × q_H) :=
  if x5 < (2 : Int32) then
    m_X6_evaluate_174 k6 h x0 x2 x3 x4 x5 x6
  else
    (q_al h x4 ((x5 - (2 : Int32)))).bind fun v14 =>
    (q_al h x4 ((x5 - (1 : Int32)))).bind fun v15 =>
    (m_X6_joined x7 v14 v15).bind fun r16 =>
    (q_sl h x4 ((x5 - (2 : Int32))) r16).bind fun h17 =>
    m_X6_evaluate_174 k6 h17 x0 x2 x3 x4 ((x5 + (-1 : Int32))) x6
set_option maxRecDepth 20000 in
set_option maxHeartbeats 1000000 in
theorem v_X6_evaluate_139 {Γ : q_G} {sz : Nat} {r : Int64} {h' : q_H} (C : q_C Γ cX6_evaluate RX6) (Rm : q_Rm Γ 9 1 24 0 0) {k6 : q_H → Nat → Int32 → Nat → Nat → Int32 → Int32 → Option (Int64 × q_H)} (K : q_K Γ cX6_evaluate .lreturn sz h' 0 0 [.long r]) (hk6 : ∀ (h : q_H) (x0 : Nat) (x2 : Int32) (x3 : Nat) (x4 : Nat) (x5 : Int32) (x6 : Int32), k6 h x0 x2 x3 x4 x5 x6 = some (r, h') → q_V Γ sz 0 0 h [(0, .ref x0), (2, .int x2), (3, .ref x3), (4, .ref x4), (5, .int x5), (6, .int x6)] [] 6) : ∀ (h : q_H) (x0 : Nat) (x2 : Int32) (x3 : Nat) (x4 : Nat) (x5 : Int32) (x6 : Int32) (x7 : Int32), m_X6_evaluate_139 k6 h x0 x2 x3 x4 x5 x6 x7 = some (r, h') → q_V Γ sz 0 0 h [(0, .ref x0), (2, .int x2), (3, .ref x3), (4, .ref x4), (5, .int x5), (6, .int x6), (7, .int x7)] [] 139 := by
  intro h x0 x2 x3 x4 x5 x6 x7 hm
  unfold m_X6_evaluate_139 at hm
  refine q_iload C (i := 5) 4 rfl (by decide +kernel) ?_
  refine q_iconst C (n := 2) (v := 2) (by decide) (by decide +kernel) ?_
  refine q_icmp_lt C (off := 32) 174 hm (by decide +kernel) (by decide) (fun _ hm => ?_) (fun _ hm => ?_)
  · refine q_loc [0, 1, 2, 3, 4, 5] rfl ?_
    exact v_X6_evaluate_174 C Rm K hk6 _ _ _ _ _ _ _ hm
  · refine q_aload C (i := 4) 3 rfl (by decide +kernel) ?_
    refine q_iload C (i := 5) 4 rfl (by decide +kernel) ?_
    refine q_iconst C (n := 2) (v := 2) (by decide) (by decide +kernel) ?_
    refine q_isub C (by decide +kernel) ?_
    refine q_iload C (i := 7) 6 rfl (by decide +kernel) ?_
    refine q_aload C (i := 4) 3 rfl (by decide +kernel) ?_
    refine q_iload C (i := 5) 4 rfl (by decide +kernel) ?_
    refine q_iconst C (n := 2) (v := 2) (by decide) (by decide +kernel) ?_
    refine q_isub C (by decide +kernel) ?_
    refine q_lr C hm (by decide +kernel) (fun v14 hm => ?_)
    refine q_aload C (i := 4) 3 rfl (by decide +kernel) ?_
    refine q_iload C (i := 5) 4 rfl (by decide +kernel) ?_
    refine q_iconst C (n := 1) (v := 1) (by decide) (by decide +kernel) ?_
    refine q_isub C (by decide +kernel) ?_
    refine q_lr C hm (by decide +kernel) (fun v15 hm => ?_)
    refine q_slP C Rm (As := [.int x7, .long v14, .long v15]) (rest := [.int ((x5 - (2 : Int32))), .ref x4]) Y_X6_joined Ys_X6_joined ml_X6_20 (by decide) (by decide) hm (fun r9 e9 => c_X6_joined _ _ _ _ _ _ _ _ _ e9) rfl rfl (Nat.le_of_ble_eq_true rfl) (by decide +kernel) (fun r16 hm => ?_)
    refine q_lw C hm (by decide +kernel) (fun h17 hm => ?_)
    refine q_iinc C Rm.1 (i := 5) (n := (-1)) (v := (x5 + (-1 : Int32))) 4 rfl (q_inc _ (by decide)) (lv' := [(5, .int ((x5 + (-1 : Int32)))), (0, .ref x0), (2, .int x2), (3, .ref x3), (4, .ref x4), (6, .int x6), (7, .int x7)]) rfl (by decide) (by decide +kernel) ?_
    refine q_loc [1, 2, 3, 4, 0, 5] rfl ?_
    exact v_X6_evaluate_174 C Rm K hk6 _ _ _ _ _ _ _ hm
def m_X6_evaluate_180  (h : q_H) (x4 : Nat) : Option (Int64 × q_H) :=
  (q_al h x4 ((0 : Int32))).bind fun v18 =>
  some (v18, h)
set_option maxRecDepth 20000 in
set_option maxHeartbeats 1000000 in
theorem v_X6_evaluate_180 {Γ : q_G} {sz : Nat} {r : Int64} {h' : q_H} (C : q_C Γ cX6_evaluate RX6) (Rm : q_Rm Γ 9 1 24 0 0)  (K : q_K Γ cX6_evaluate .lreturn sz h' 0 0 [.long r])  : ∀ (h : q_H) (x4 : Nat), m_X6_evaluate_180 h x4 = some (r, h') → q_V Γ sz 0 0 h [(4, .ref x4)] [] 180 := by
  intro h x4 hm
  unfold m_X6_evaluate_180 at hm
  refine q_aload C (i := 4) 0 rfl (by decide +kernel) ?_
  refine q_iconst C (n := 0) (v := 0) (by decide) (by decide +kernel) ?_
  refine q_lr C hm (by decide +kernel) (fun v18 hm => ?_)
  exact q_rlS hm K (by decide +kernel)
def m_X6_evaluate_6  : Nat → q_H → Nat → Int32 → Nat → Nat → Int32 → Int32 → Option (Int64 × q_H)
  | 0, _, _, _, _, _, _, _ => none
  | n + 1, h, x0, x2, x3, x4, x5, x6 =>
    if x2 ≤ x6 then
      m_X6_evaluate_180 h x4
    else
      (q_gn h x0 6 0).bind fun v1 =>
      (q_ln h v1).bind fun v2 =>
      if v2 ≤ x6 then
        m_X6_evaluate_180 h x4
      else
        (q_ln h x4).bind fun v3 =>
        if v3 ≤ x5 then
          m_X6_evaluate_180 h x4
        else
          (q_gn h x0 6 0).bind fun v4 =>
          (q_ai h v4 1 x6).bind fun v5 =>
          (q_gn h x0 6 0).bind fun v6 =>
          (q_ai h v6 1 x6).bind fun v7 =>
          if (q_rmi v5 ((32 : Int32))) = (15 : Int32) then
            (q_sl h x4 x5 (((v7 / (32 : Int32))).toInt64)).bind fun h12 =>
            m_X6_evaluate_174 (m_X6_evaluate_6 n) h12 x0 x2 x3 x4 ((x5 + (1 : Int32))) x6
          else
            if (q_rmi v5 ((32 : Int32))) = (16 : Int32) then
              (q_ln h x3).bind fun v10 =>
              if v10 ≤ (v7 / (32 : Int32)) then
                m_X6_evaluate_101 (m_X6_evaluate_6 n) h x0 x2 x3 x4 x5 x6 ((0 : Int64)) x5 x4
              else
                (q_al h x3 ((v7 / (32 : Int32)))).bind fun v11 =>
                m_X6_evaluate_101 (m_X6_evaluate_6 n) h x0 x2 x3 x4 x5 x6 v11 x5 x4
            else
              if (q_rmi v5 ((32 : Int32))) = (4 : Int32) then
                if x5 < (1 : Int32) then
                  m_X6_evaluate_139 (m_X6_evaluate_6 n) h x0 x2 x3 x4 x5 x6 ((q_rmi v5 ((32 : Int32))))
                else
                  (q_al h x4 ((x5 - (1 : Int32)))).bind fun v8 =>
                  (q_sl h x4 ((x5 - (1 : Int32))) (((1 : Int64) - v8))).bind fun h9 =>
                  m_X6_evaluate_174 (m_X6_evaluate_6 n) h9 x0 x2 x3 x4 x5 x6
              else
                m_X6_evaluate_139 (m_X6_evaluate_6 n) h x0 x2 x3 x4 x5 x6 ((q_rmi v5 ((32 : Int32))))
set_option maxRecDepth 20000 in
set_option maxHeartbeats 1000000 in
theorem v_X6_evaluate_6 {Γ : q_G} {sz : Nat} {r : Int64} {h' : q_H} (C : q_C Γ cX6_evaluate RX6) (Rm : q_Rm Γ 9 1 24 0 0)  (K : q_K Γ cX6_evaluate .lreturn sz h' 0 0 [.long r])  : ∀ (n : Nat) (h : q_H) (x0 : Nat) (x2 : Int32) (x3 : Nat) (x4 : Nat) (x5 : Int32) (x6 : Int32), m_X6_evaluate_6 n h x0 x2 x3 x4 x5 x6 = some (r, h') → q_V Γ sz 0 0 h [(0, .ref x0), (2, .int x2), (3, .ref x3), (4, .ref x4), (5, .int x5), (6, .int x6)] [] 6 := by
  intro n
  induction n with
  | zero => intro h x0 x2 x3 x4 x5 x6 hm; cases hm
  | succ n ih =>
    intro h x0 x2 x3 x4 x5 x6 hm
    unfold m_X6_evaluate_6 at hm
    refine q_iload C (i := 6) 5 rfl (by decide +kernel) ?_
    refine q_iload_n C (k4 := 2) 1 rfl (by decide +kernel) ?_
    refine q_icmp_ge C (off := 171) 180 hm (by decide +kernel) (by decide) (fun _ hm => ?_) (fun _ hm => ?_)
    · refine q_loc [3] rfl ?_
      exact v_X6_evaluate_180 C Rm K _ _ hm
    · refine q_iload C (i := 6) 5 rfl (by decide +kernel) ?_
      refine q_aload_n C (k4 := 0) 0 rfl (by decide +kernel) ?_
      refine q_getn C fl_6_7 hm (by decide +kernel) (fun v1 hm => ?_)
      refine q_len C hm (by decide +kernel) (fun v2 hm => ?_)
      refine q_icmp_ge C (off := 161) 180 hm (by decide +kernel) (by decide) (fun _ hm => ?_) (fun _ hm => ?_)
      · refine q_loc [3] rfl ?_
        exact v_X6_evaluate_180 C Rm K _ _ hm
      · refine q_iload C (i := 5) 4 rfl (by decide +kernel) ?_
        refine q_aload C (i := 4) 3 rfl (by decide +kernel) ?_
        refine q_len C hm (by decide +kernel) (fun v3 hm => ?_)
        refine q_icmp_ge C (off := 153) 180 hm (by decide +kernel) (by decide) (fun _ hm => ?_) (fun _ hm => ?_)
        · refine q_loc [3] rfl ?_
          exact v_X6_evaluate_180 C Rm K _ _ hm
        · refine q_aload_n C (k4 := 0) 0 rfl (by decide +kernel) ?_
          refine q_getn C fl_6_7 hm (by decide +kernel) (fun v4 hm => ?_)
          refine q_iload C (i := 6) 5 rfl (by decide +kernel) ?_
          refine q_ir C hm (by decide +kernel) (fun v5 hm => ?_)
          refine q_bipush C (n := 32) (v := 32) (by decide) (by decide +kernel) ?_
          refine q_irem C (by decide) (by decide +kernel) ?_
          refine q_istore C Rm.1 (i := 7) (lv' := [(7, .int ((q_rmi v5 ((32 : Int32))))), (0, .ref x0), (2, .int x2), (3, .ref x3), (4, .ref x4), (5, .int x5), (6, .int x6)]) rfl (by decide) (by decide +kernel) ?_
          refine q_aload_n C (k4 := 0) 1 rfl (by decide +kernel) ?_
          refine q_getn C fl_6_7 hm (by decide +kernel) (fun v6 hm => ?_)
          refine q_iload C (i := 6) 6 rfl (by decide +kernel) ?_
          refine q_ir C hm (by decide +kernel) (fun v7 hm => ?_)
          refine q_bipush C (n := 32) (v := 32) (by decide) (by decide +kernel) ?_
          refine q_idiv C (by decide) (by decide +kernel) ?_
          refine q_istore C Rm.1 (i := 8) (lv' := [(8, .int ((v7 / (32 : Int32)))), (7, .int ((q_rmi v5 ((32 : Int32))))), (0, .ref x0), (2, .int x2), (3, .ref x3), (4, .ref x4), (5, .int x5), (6, .int x6)]) rfl (by decide) (by decide +kernel) ?_
          refine q_iload C (i := 7) 1 rfl (by decide +kernel) ?_
          refine q_bipush C (n := 15) (v := 15) (by decide) (by decide +kernel) ?_
          refine q_icmp_ne C (off := 17) 75 hm (by decide +kernel) (by decide) (fun _ hm => ?_) (fun _ hm => ?_)
          · refine q_iload C (i := 7) 1 rfl (by decide +kernel) ?_
            refine q_bipush C (n := 16) (v := 16) (by decide) (by decide +kernel) ?_
            refine q_icmp_ne C (off := 29) 108 hm (by decide +kernel) (by decide) (fun _ hm => ?_) (fun _ hm => ?_)
            · refine q_iload C (i := 7) 1 rfl (by decide +kernel) ?_
              refine q_iconst C (n := 4) (v := 4) (by decide) (by decide +kernel) ?_
              refine q_icmp_ne C (off := 28) 139 hm (by decide +kernel) (by decide) (fun _ hm => ?_) (fun _ hm => ?_)
              · refine q_loc [2, 3, 4, 5, 6, 7, 1] rfl ?_
                exact v_X6_evaluate_139 C Rm K ih _ _ _ _ _ _ _ _ hm
              · refine q_iload C (i := 5) 6 rfl (by decide +kernel) ?_
                refine q_iconst C (n := 1) (v := 1) (by decide) (by decide +kernel) ?_
                refine q_icmp_lt C (off := 22) 139 hm (by decide +kernel) (by decide) (fun _ hm => ?_) (fun _ hm => ?_)
                · refine q_loc [2, 3, 4, 5, 6, 7, 1] rfl ?_
                  exact v_X6_evaluate_139 C Rm K ih _ _ _ _ _ _ _ _ hm
                · refine q_aload C (i := 4) 5 rfl (by decide +kernel) ?_
                  refine q_iload C (i := 5) 6 rfl (by decide +kernel) ?_
                  refine q_iconst C (n := 1) (v := 1) (by decide) (by decide +kernel) ?_
                  refine q_isub C (by decide +kernel) ?_
                  refine q_lconst C (n := 1) (v := 1) (by decide) (by decide +kernel) ?_
                  refine q_aload C (i := 4) 5 rfl (by decide +kernel) ?_
                  refine q_iload C (i := 5) 6 rfl (by decide +kernel) ?_
                  refine q_iconst C (n := 1) (v := 1) (by decide) (by decide +kernel) ?_
                  refine q_isub C (by decide +kernel) ?_
                  refine q_lr C hm (by decide +kernel) (fun v8 hm => ?_)
                  refine q_lsub C (by decide +kernel) ?_
                  refine q_lw C hm (by decide +kernel) (fun h9 hm => ?_)
                  refine q_goto C (off := 38) 174 (by decide +kernel) (by decide) ?_
                  refine q_loc [2, 3, 4, 5, 6, 7] rfl ?_
                  exact v_X6_evaluate_174 C Rm K ih _ _ _ _ _ _ _ hm
            · refine q_aload C (i := 4) 5 rfl (by decide +kernel) ?_
              refine q_iload C (i := 5) 6 rfl (by decide +kernel) ?_
              refine q_iload C (i := 8) 0 rfl (by decide +kernel) ?_
              refine q_aload_n C (k4 := 3) 4 rfl (by decide +kernel) ?_
              refine q_len C hm (by decide +kernel) (fun v10 hm => ?_)
              refine q_icmp_ge C (off := 10) 100 hm (by decide +kernel) (by decide) (fun _ hm => ?_) (fun _ hm => ?_)
              · refine q_lconst C (n := 0) (v := 0) (by decide) (by decide +kernel) ?_
                refine q_loc [2, 3, 4, 5, 6, 7] rfl ?_
                exact v_X6_evaluate_101 C Rm K ih _ _ _ _ _ _ _ _ _ _ hm
              · refine q_aload_n C (k4 := 3) 4 rfl (by decide +kernel) ?_
                refine q_iload C (i := 8) 0 rfl (by decide +kernel) ?_
                refine q_lr C hm (by decide +kernel) (fun v11 hm => ?_)
                refine q_goto C (off := 4) 101 (by decide +kernel) (by decide) ?_
                refine q_loc [2, 3, 4, 5, 6, 7] rfl ?_
                exact v_X6_evaluate_101 C Rm K ih _ _ _ _ _ _ _ _ _ _ hm
          · refine q_aload C (i := 4) 5 rfl (by decide +kernel) ?_
            refine q_iload C (i := 5) 6 rfl (by decide +kernel) ?_
            refine q_iload C (i := 8) 0 rfl (by decide +kernel) ?_
            refine q_i2l C (by decide +kernel) ?_
            refine q_lw C hm (by decide +kernel) (fun h12 hm => ?_)
            refine q_iinc C Rm.1 (i := 5) (n := 1) (v := (x5 + (1 : Int32))) 6 rfl (q_inc _ (by decide)) (lv' := [(5, .int ((x5 + (1 : Int32)))), (8, .int ((v7 / (32 : Int32)))), (7, .int ((q_rmi v5 ((32 : Int32))))), (0, .ref x0), (2, .int x2), (3, .ref x3), (4, .ref x4), (6, .int x6)]) rfl (by decide) (by decide +kernel) ?_
            refine q_goto C (off := 102) 174 (by decide +kernel) (by decide) ?_
            refine q_loc [3, 4, 5, 6, 0, 7] rfl ?_
            exact v_X6_evaluate_174 C Rm K ih _ _ _ _ _ _ _ hm
def m_X6_evaluate (h : q_H) (a0 : Nat) (a1 : Int32) (a2 : Int32) (a3 : Nat) (a4 : Nat) : Option (Int64 × q_H) :=
  m_X6_evaluate_6 q_fu h a0 a2 a3 a4 ((0 : Int32)) a1
set_option maxRecDepth 20000 in
set_option maxHeartbeats 1000000 in
theorem c_X6_evaluate (l : Launch) (base : Nat) (D : va_G) (tc : Nat → ClassId) (sz : Nat) (h : q_H) (a0 : Nat) (a1 : Int32) (a2 : Int32) (a3 : Nat) (a4 : Nat) {r : Int64} {h' : q_H} (hm : m_X6_evaluate h a0 a1 a2 a3 a4 = some (r, h')) : q_M l yX6_evaluate cX6_evaluate 9 (some .long) 1 24 0 0 base D tc [.ref a0, .int a1, .int a2, .ref a3, .ref a4] sz h (some (.long r)) sz h' := by
  refine q_startl (by decide) (Nat.le_of_ble_eq_true rfl) (fun Γ B K => ?_)
  obtain ⟨C, Rm, -⟩ := B
  have C : q_C Γ cX6_evaluate RX6 := C
  show q_V Γ sz 0 0 h [(0, .ref a0), (1, .int a1), (2, .int a2), (3, .ref a3), (4, .ref a4)] [] 0
  unfold m_X6_evaluate at hm
  refine q_iconst C (n := 0) (v := 0) (by decide) (by decide +kernel) ?_
  refine q_istore C Rm.1 (i := 5) (lv' := [(5, .int ((0 : Int32))), (0, .ref a0), (1, .int a1), (2, .int a2), (3, .ref a3), (4, .ref a4)]) rfl (by decide) (by decide +kernel) ?_
  refine q_iload_n C (k4 := 1) 2 rfl (by decide +kernel) ?_
  refine q_istore C Rm.1 (i := 6) (lv' := [(6, .int a1), (5, .int ((0 : Int32))), (0, .ref a0), (1, .int a1), (2, .int a2), (3, .ref a3), (4, .ref a4)]) rfl (by decide) (by decide +kernel) ?_
  refine q_loc [2, 4, 5, 6, 1, 0] rfl ?_
  exact v_X6_evaluate_6 C Rm K _ _ _ _ _ _ _ _ hm
def m_X6_saysTo_71  (h : q_H) (x0 : Nat) (x1 : Nat) (x2 : Nat) (x3 : Int32) : Option (Int64 × q_H) :=
  (q_gn h x0 6 1).bind fun v13 =>
  (q_ai h v13 1 x3).bind fun v14 =>
  (q_gn h x0 6 1).bind fun v15 =>
  (q_ai h v15 1 ((x3 + (1 : Int32)))).bind fun v16 =>
  (q_ca 6 h x0 (m_X6_evaluate h x0 v14 v16 x1 x2)).bind fun (r17, h18) =>
  some (r17, h18)
set_option maxRecDepth 20000 in
set_option maxHeartbeats 1000000 in
theorem v_X6_saysTo_71 {Γ : q_G} {sz : Nat} {r : Int64} {h' : q_H} (C : q_C Γ cX6_saysTo RX6) (Rm : q_Rm Γ 5 2 52 0 0)  (K : q_K Γ cX6_saysTo .lreturn sz h' 0 0 [.long r])  : ∀ (h : q_H) (x0 : Nat) (x1 : Nat) (x2 : Nat) (x3 : Int32), m_X6_saysTo_71 h x0 x1 x2 x3 = some (r, h') → q_V Γ sz 0 0 h [(0, .ref x0), (1, .ref x1), (2, .ref x2), (3, .int x3)] [] 71 := by
  intro h x0 x1 x2 x3 hm
  unfold m_X6_saysTo_71 at hm
  refine q_aload_n C (k4 := 0) 0 rfl (by decide +kernel) ?_
  refine q_aload_n C (k4 := 0) 0 rfl (by decide +kernel) ?_
  refine q_getn C fl_6_13 hm (by decide +kernel) (fun v13 hm => ?_)
  refine q_iload_n C (k4 := 3) 3 rfl (by decide +kernel) ?_
  refine q_ir C hm (by decide +kernel) (fun v14 hm => ?_)
  refine q_aload_n C (k4 := 0) 0 rfl (by decide +kernel) ?_
  refine q_getn C fl_6_13 hm (by decide +kernel) (fun v15 hm => ?_)
  refine q_iload_n C (k4 := 3) 3 rfl (by decide +kernel) ?_
  refine q_iconst C (n := 1) (v := 1) (by decide) (by decide +kernel) ?_
  refine q_iadd C (by decide +kernel) ?_
  refine q_ir C hm (by decide +kernel) (fun v16 hm => ?_)
  refine q_aload_n C (k4 := 1) 1 rfl (by decide +kernel) ?_
  refine q_aload_n C (k4 := 2) 2 rfl (by decide +kernel) ?_
  refine q_vlS C Rm (As := [.int v14, .int v16, .ref x1, .ref x2]) (rest := []) Y_X6_evaluate Yv_X6_evaluate ml_X6_16 (by decide) (by decide) hm (fun r17 h18 e9 => c_X6_evaluate _ _ _ _ _ _ _ _ _ _ _ e9) rfl rfl (Nat.le_of_ble_eq_true rfl) (by decide +kernel) (fun r17 h18 hm => ?_)
  exact q_rlS hm K (by decide +kernel)
def m_X6_saysTo_37 (k2 : q_H → Nat → Nat → Nat → Int32 → Option (Int64 × q_H)) (h : q_H) (x0 : Nat) (x1 : Nat) (x2 : Nat) (x3 : Int32) (s0 : Int32) : Option (Int64 × q_H) :=
  if s0 = 0 then
    (q_gn h x0 6 1).bind fun v7 =>
    (q_ai h v7 1 ((x3 + (1 : Int32)))).bind fun v8 =>
    (q_gn h x0 6 1).bind fun v9 =>
    (q_ai h v9 1 ((x3 + (2 : Int32)))).bind fun v10 =>
    (q_ca 6 h x0 (m_X6_evaluate h x0 v8 v10 x1 x2)).bind fun (r11, h12) =>
    if (lg_cmp r11 ((0 : Int64))) = 0 then
      k2 h12 x0 x1 x2 ((x3 + (2 : Int32)))
    else
      m_X6_saysTo_71 h12 x0 x1 x2 x3
  else
    m_X6_saysTo_71 h x0 x1 x2 x3
set_option maxRecDepth 20000 in
set_option maxHeartbeats 1000000 in
theorem v_X6_saysTo_37 {Γ : q_G} {sz : Nat} {r : Int64} {h' : q_H} (C : q_C Γ cX6_saysTo RX6) (Rm : q_Rm Γ 5 2 52 0 0) {k2 : q_H → Nat → Nat → Nat → Int32 → Option (Int64 × q_H)} (K : q_K Γ cX6_saysTo .lreturn sz h' 0 0 [.long r]) (hk2 : ∀ (h : q_H) (x0 : Nat) (x1 : Nat) (x2 : Nat) (x3 : Int32), k2 h x0 x1 x2 x3 = some (r, h') → q_V Γ sz 0 0 h [(0, .ref x0), (1, .ref x1), (2, .ref x2), (3, .int x3)] [] 2) : ∀ (h : q_H) (x0 : Nat) (x1 : Nat) (x2 : Nat) (x3 : Int32) (s0 : Int32), m_X6_saysTo_37 k2 h x0 x1 x2 x3 s0 = some (r, h') → q_V Γ sz 0 0 h [(0, .ref x0), (1, .ref x1), (2, .ref x2), (3, .int x3)] [.int s0] 37 := by
  intro h x0 x1 x2 x3 s0 hm
  unfold m_X6_saysTo_37 at hm
  refine q_istore C Rm.1 (i := 4) (lv' := [(4, .int s0), (0, .ref x0), (1, .ref x1), (2, .ref x2), (3, .int x3)]) rfl (by decide) (by decide +kernel) ?_
  refine q_iload C (i := 4) 0 rfl (by decide +kernel) ?_
  refine q_if_ne C (off := 30) 71 hm (by decide +kernel) (by decide) (fun _ hm => ?_) (fun _ hm => ?_)
  · refine q_loc [1, 2, 3, 4] rfl ?_
    exact v_X6_saysTo_71 C Rm K _ _ _ _ _ hm
  · refine q_aload_n C (k4 := 0) 1 rfl (by decide +kernel) ?_
    refine q_aload_n C (k4 := 0) 1 rfl (by decide +kernel) ?_
    refine q_getn C fl_6_13 hm (by decide +kernel) (fun v7 hm => ?_)
    refine q_iload_n C (k4 := 3) 4 rfl (by decide +kernel) ?_
    refine q_iconst C (n := 1) (v := 1) (by decide) (by decide +kernel) ?_
    refine q_iadd C (by decide +kernel) ?_
    refine q_ir C hm (by decide +kernel) (fun v8 hm => ?_)
    refine q_aload_n C (k4 := 0) 1 rfl (by decide +kernel) ?_
    refine q_getn C fl_6_13 hm (by decide +kernel) (fun v9 hm => ?_)
    refine q_iload_n C (k4 := 3) 4 rfl (by decide +kernel) ?_
    refine q_iconst C (n := 2) (v := 2) (by decide) (by decide +kernel) ?_
    refine q_iadd C (by decide +kernel) ?_
    refine q_ir C hm (by decide +kernel) (fun v10 hm => ?_)
    refine q_aload_n C (k4 := 1) 2 rfl (by decide +kernel) ?_
    refine q_aload_n C (k4 := 2) 3 rfl (by decide +kernel) ?_
    refine q_vlS C Rm (As := [.int v8, .int v10, .ref x1, .ref x2]) (rest := []) Y_X6_evaluate Yv_X6_evaluate ml_X6_16 (by decide) (by decide) hm (fun r11 h12 e9 => c_X6_evaluate _ _ _ _ _ _ _ _ _ _ _ e9) rfl rfl (Nat.le_of_ble_eq_true rfl) (by decide +kernel) (fun r11 h12 hm => ?_)
    refine q_lconst C (n := 0) (v := 0) (by decide) (by decide +kernel) ?_
    refine q_lcmp C (by decide +kernel) ?_
    refine q_if_eq C (off := 24) 92 hm (by decide +kernel) (by decide) (fun _ hm => ?_) (fun _ hm => ?_)
    · refine q_iinc C Rm.1 (i := 3) (n := 2) (v := (x3 + (2 : Int32))) 4 rfl (q_inc _ (by decide)) (lv' := [(3, .int ((x3 + (2 : Int32)))), (4, .int s0), (0, .ref x0), (1, .ref x1), (2, .ref x2)]) rfl (by decide) (by decide +kernel) ?_
      refine q_goto C (off := -93) 2 (by decide +kernel) (by decide) ?_
      refine q_loc [2, 3, 4, 0] rfl ?_
      exact hk2 _ _ _ _ _ hm
    · refine q_loc [1, 2, 3, 4] rfl ?_
      exact v_X6_saysTo_71 C Rm K _ _ _ _ _ hm
def m_X6_saysTo_2  : Nat → q_H → Nat → Nat → Nat → Int32 → Option (Int64 × q_H)
  | 0, _, _, _, _, _ => none
  | n + 1, h, x0, x1, x2, x3 =>
    (q_gn h x0 6 1).bind fun v1 =>
    (q_ln h v1).bind fun v2 =>
    if v2 ≤ (x3 + (2 : Int32)) then
      some ((0 : Int64), h)
    else
      (q_gn h x0 6 1).bind fun v3 =>
      (q_ai h v3 1 ((x3 + (1 : Int32)))).bind fun v4 =>
      (q_gn h x0 6 1).bind fun v5 =>
      (q_ai h v5 1 ((x3 + (2 : Int32)))).bind fun v6 =>
      if v4 = v6 then
        m_X6_saysTo_37 (m_X6_saysTo_2 n) h x0 x1 x2 x3 ((1 : Int32))
      else
        m_X6_saysTo_37 (m_X6_saysTo_2 n) h x0 x1 x2 x3 ((0 : Int32))
set_option maxRecDepth 20000 in
set_option maxHeartbeats 1000000 in
theorem v_X6_saysTo_2 {Γ : q_G} {sz : Nat} {r : Int64} {h' : q_H} (C : q_C Γ cX6_saysTo RX6) (Rm : q_Rm Γ 5 2 52 0 0)  (K : q_K Γ cX6_saysTo .lreturn sz h' 0 0 [.long r])  : ∀ (n : Nat) (h : q_H) (x0 : Nat) (x1 : Nat) (x2 : Nat) (x3 : Int32), m_X6_saysTo_2 n h x0 x1 x2 x3 = some (r, h') → q_V Γ sz 0 0 h [(0, .ref x0), (1, .ref x1), (2, .ref x2), (3, .int x3)] [] 2 := by
  intro n
  induction n with
  | zero => intro h x0 x1 x2 x3 hm; cases hm
  | succ n ih =>
    intro h x0 x1 x2 x3 hm
    unfold m_X6_saysTo_2 at hm
    refine q_iload_n C (k4 := 3) 3 rfl (by decide +kernel) ?_
    refine q_iconst C (n := 2) (v := 2) (by decide) (by decide +kernel) ?_
    refine q_iadd C (by decide +kernel) ?_
    refine q_aload_n C (k4 := 0) 0 rfl (by decide +kernel) ?_
    refine q_getn C fl_6_13 hm (by decide +kernel) (fun v1 hm => ?_)
    refine q_len C hm (by decide +kernel) (fun v2 hm => ?_)
    refine q_icmp_ge C (off := 88) 98 hm (by decide +kernel) (by decide) (fun _ hm => ?_) (fun _ hm => ?_)
    · refine q_lconst C (n := 0) (v := 0) (by decide) (by decide +kernel) ?_
      exact q_rlS hm K (by decide +kernel)
    · refine q_aload_n C (k4 := 0) 0 rfl (by decide +kernel) ?_
      refine q_getn C fl_6_13 hm (by decide +kernel) (fun v3 hm => ?_)
      refine q_iload_n C (k4 := 3) 3 rfl (by decide +kernel) ?_
      refine q_iconst C (n := 1) (v := 1) (by decide) (by decide +kernel) ?_
      refine q_iadd C (by decide +kernel) ?_
      refine q_ir C hm (by decide +kernel) (fun v4 hm => ?_)
      refine q_aload_n C (k4 := 0) 0 rfl (by decide +kernel) ?_
      refine q_getn C fl_6_13 hm (by decide +kernel) (fun v5 hm => ?_)
      refine q_iload_n C (k4 := 3) 3 rfl (by decide +kernel) ?_
      refine q_iconst C (n := 2) (v := 2) (by decide) (by decide +kernel) ?_
      refine q_iadd C (by decide +kernel) ?_
      refine q_ir C hm (by decide +kernel) (fun v6 hm => ?_)
      refine q_icmp_ne C (off := 7) 36 hm (by decide +kernel) (by decide) (fun _ hm => ?_) (fun _ hm => ?_)
      · refine q_iconst C (n := 0) (v := 0) (by decide) (by decide +kernel) ?_
        exact v_X6_saysTo_37 C Rm K ih _ _ _ _ _ _ hm
      · refine q_iconst C (n := 1) (v := 1) (by decide) (by decide +kernel) ?_
        refine q_goto C (off := 4) 37 (by decide +kernel) (by decide) ?_
        exact v_X6_saysTo_37 C Rm K ih _ _ _ _ _ _ hm
def m_X6_saysTo (h : q_H) (a0 : Nat) (a1 : Nat) (a2 : Nat) : Option (Int64 × q_H) :=
  m_X6_saysTo_2 q_fu h a0 a1 a2 ((0 : Int32))
set_option maxRecDepth 20000 in
set_option maxHeartbeats 1000000 in
theorem c_X6_saysTo (l : Launch) (base : Nat) (D : va_G) (tc : Nat → ClassId) (sz : Nat) (h : q_H) (a0 : Nat) (a1 : Nat) (a2 : Nat) {r : Int64} {h' : q_H} (hm : m_X6_saysTo h a0 a1 a2 = some (r, h')) : q_M l yX6_saysTo cX6_saysTo 5 (some .long) 2 52 0 0 base D tc [.ref a0, .ref a1, .ref a2] sz h (some (.long r)) sz h' := by
  refine q_startl (by decide) (Nat.le_of_ble_eq_true rfl) (fun Γ B K => ?_)
  obtain ⟨C, Rm, -⟩ := B
  have C : q_C Γ cX6_saysTo RX6 := C
  show q_V Γ sz 0 0 h [(0, .ref a0), (1, .ref a1), (2, .ref a2)] [] 0
  unfold m_X6_saysTo at hm
  refine q_iconst C (n := 0) (v := 0) (by decide) (by decide +kernel) ?_
  refine q_istore_n C Rm.1 (k4 := 3) (i := 3) rfl (lv' := [(3, .int ((0 : Int32))), (0, .ref a0), (1, .ref a1), (2, .ref a2)]) rfl (by decide) (by decide +kernel) ?_
  refine q_loc [1, 2, 3, 0] rfl ?_
  exact v_X6_saysTo_2 C Rm K _ _ _ _ _ _ hm
def m_X1_chooseEfforts_132 (k48 : q_H → Nat → Nat → Int32 → Option q_H) (h : q_H) (x0 : Nat) (x1 : Nat) (x2 : Int32) (x3 : Int64) : Option q_H :=
  (q_gn h x1 10 5).bind fun v24 =>
  (q_ai h v24 1 x2).bind fun v25 =>
  (q_gn h x0 1 3).bind fun v26 =>
  (q_si h v26 1 x2 (((if (if x3 < ((if v25 < (3 : Int32) then v25 else (3 : Int32))).toInt64 then x3 else ((if v25 < (3 : Int32) then v25 else (3 : Int32))).toInt64) < (0 : Int64) then (0 : Int64) else (if x3 < ((if v25 < (3 : Int32) then v25 else (3 : Int32))).toInt64 then x3 else ((if v25 < (3 : Int32) then v25 else (3 : Int32))).toInt64))).toInt32)).bind fun h27 =>
  k48 h27 x0 x1 ((x2 + (1 : Int32)))
set_option maxRecDepth 20000 in
set_option maxHeartbeats 1000000 in
theorem v_X1_chooseEfforts_132 {Γ : q_G} {sz : Nat} {h' : q_H} (C : q_C Γ cX1_chooseEfforts RX1) (Rm : q_Rm Γ 6 3 80 0 0) {k48 : q_H → Nat → Nat → Int32 → Option q_H} (K : q_K Γ cX1_chooseEfforts .return_ sz h' 0 0 []) (hk48 : ∀ (h : q_H) (x0 : Nat) (x1 : Nat) (x2 : Int32), k48 h x0 x1 x2 = some h' → q_V Γ sz 0 0 h [(0, .ref x0), (1, .ref x1), (2, .int x2)] [] 48) : ∀ (h : q_H) (x0 : Nat) (x1 : Nat) (x2 : Int32) (x3 : Int64), m_X1_chooseEfforts_132 k48 h x0 x1 x2 x3 = some h' → q_V Γ sz 0 0 h [(0, .ref x0), (1, .ref x1), (2, .int x2), (3, .long x3)] [] 132 := by
  intro h x0 x1 x2 x3 hm
  unfold m_X1_chooseEfforts_132 at hm
  refine q_iconst C (n := 3) (v := 3) (by decide) (by decide +kernel) ?_
  refine q_aload_n C (k4 := 1) 1 rfl (by decide +kernel) ?_
  refine q_getn C fl_1_120 hm (by decide +kernel) (fun v24 hm => ?_)
  refine q_iload_n C (k4 := 2) 2 rfl (by decide +kernel) ?_
  refine q_ir C hm (by decide +kernel) (fun v25 hm => ?_)
  refine q_mmin C Rm ml_X1_70 (by decide) (Nat.le_of_ble_eq_true rfl) ⟨Nat.le_refl _, Nat.le_refl _⟩ (by decide +kernel) ?_
  refine q_istore C Rm.1 (i := 5) (lv' := [(5, .int ((if v25 < (3 : Int32) then v25 else (3 : Int32)))), (0, .ref x0), (1, .ref x1), (2, .int x2), (3, .long x3)]) rfl (by decide) (by decide +kernel) ?_
  refine q_aload_n C (k4 := 0) 1 rfl (by decide +kernel) ?_
  refine q_getn C fl_1_15 hm (by decide +kernel) (fun v26 hm => ?_)
  refine q_iload_n C (k4 := 2) 3 rfl (by decide +kernel) ?_
  refine q_lconst C (n := 0) (v := 0) (by decide) (by decide +kernel) ?_
  refine q_iload C (i := 5) 0 rfl (by decide +kernel) ?_
  refine q_i2l C (by decide +kernel) ?_
  refine q_lload_n C (k4 := 3) 4 rfl (by decide +kernel) ?_
  refine q_mmin_long C Rm ml_X1_123 (by decide) (Nat.le_of_ble_eq_true rfl) ⟨Nat.le_refl _, Nat.le_refl _⟩ (by decide +kernel) ?_
  refine q_mmax_long C Rm ml_X1_126 (by decide) (Nat.le_of_ble_eq_true rfl) ⟨Nat.le_refl _, Nat.le_refl _⟩ (by decide +kernel) ?_
  refine q_l2i C (by decide +kernel) ?_
  refine q_iw C hm (by decide +kernel) (fun h27 hm => ?_)
  refine q_iinc C Rm.1 (i := 2) (n := 1) (v := (x2 + (1 : Int32))) 3 rfl (q_inc _ (by decide)) (lv' := [(2, .int ((x2 + (1 : Int32)))), (5, .int ((if v25 < (3 : Int32) then v25 else (3 : Int32)))), (0, .ref x0), (1, .ref x1), (3, .long x3)]) rfl (by decide) (by decide +kernel) ?_
  refine q_goto C (off := -117) 48 (by decide +kernel) (by decide) ?_
  refine q_loc [2, 3, 0] rfl ?_
  exact hk48 _ _ _ _ hm
def m_X1_chooseEfforts_102 (k48 : q_H → Nat → Nat → Int32 → Option q_H) (h : q_H) (x0 : Nat) (x1 : Nat) (x2 : Int32) (x3 : Int64) : Option q_H :=
  if (lg_cmp x3 ((-1 : Int64))) = 0 then
    (q_ca 1 h x0 (m_X1_tellWords h x0 x1 x2)).bind fun h29 =>
    (q_gn h29 x0 1 1).bind fun v30 =>
    (q_gn h29 x0 1 5).bind fun v31 =>
    (q_gn h29 x0 1 6).bind fun v32 =>
    (q_ca 6 h29 v30 (m_X6_saysTo h29 v30 v31 v32)).bind fun (r33, h34) =>
    m_X1_chooseEfforts_132 k48 h34 x0 x1 x2 r33
  else
    m_X1_chooseEfforts_132 k48 h x0 x1 x2 x3
set_option maxRecDepth 20000 in
set_option maxHeartbeats 1000000 in
theorem v_X1_chooseEfforts_102 {Γ : q_G} {sz : Nat} {h' : q_H} (C : q_C Γ cX1_chooseEfforts RX1) (Rm : q_Rm Γ 6 3 80 0 0) {k48 : q_H → Nat → Nat → Int32 → Option q_H} (K : q_K Γ cX1_chooseEfforts .return_ sz h' 0 0 []) (hk48 : ∀ (h : q_H) (x0 : Nat) (x1 : Nat) (x2 : Int32), k48 h x0 x1 x2 = some h' → q_V Γ sz 0 0 h [(0, .ref x0), (1, .ref x1), (2, .int x2)] [] 48) : ∀ (h : q_H) (x0 : Nat) (x1 : Nat) (x2 : Int32) (x3 : Int64), m_X1_chooseEfforts_102 k48 h x0 x1 x2 x3 = some h' → q_V Γ sz 0 0 h [(0, .ref x0), (1, .ref x1), (2, .int x2), (3, .long x3)] [] 102 := by
  intro h x0 x1 x2 x3 hm
  unfold m_X1_chooseEfforts_102 at hm
  refine q_lload_n C (k4 := 3) 3 rfl (by decide +kernel) ?_
  refine q_ldc2 C (idx := 108) (v := (-1)) (q_m4 8 rfl rfl) (by decide +kernel) ?_
  refine q_lcmp C (by decide +kernel) ?_
  refine q_if_ne C (off := 25) 132 hm (by decide +kernel) (by decide) (fun _ hm => ?_) (fun _ hm => ?_)
  · exact v_X1_chooseEfforts_132 C Rm K hk48 _ _ _ _ _ hm
  · refine q_aload_n C (k4 := 0) 0 rfl (by decide +kernel) ?_
    refine q_aload_n C (k4 := 1) 1 rfl (by decide +kernel) ?_
    refine q_iload_n C (k4 := 2) 2 rfl (by decide +kernel) ?_
    refine q_vvS C Rm (As := [.ref x1, .int x2]) (rest := []) Y_X1_tellWords Yv_X1_tellWords ml_X1_112 (by decide) (by decide) hm (fun h29 e9 => c_X1_tellWords _ _ _ _ _ _ _ _ _ e9) rfl rfl (Nat.le_of_ble_eq_true rfl) (by decide +kernel) (fun h29 hm => ?_)
    refine q_aload_n C (k4 := 0) 0 rfl (by decide +kernel) ?_
    refine q_getn C fl_1_34 hm (by decide +kernel) (fun v30 hm => ?_)
    refine q_aload_n C (k4 := 0) 0 rfl (by decide +kernel) ?_
    refine q_getn C fl_1_23 hm (by decide +kernel) (fun v31 hm => ?_)
    refine q_aload_n C (k4 := 0) 0 rfl (by decide +kernel) ?_
    refine q_getn C fl_1_27 hm (by decide +kernel) (fun v32 hm => ?_)
    refine q_vlS C Rm (As := [.ref v31, .ref v32]) (rest := []) Y_X6_saysTo Yv_X6_saysTo ml_X1_116 (by decide) (by decide) hm (fun r33 h34 e9 => c_X6_saysTo _ _ _ _ _ _ _ _ _ e9) rfl rfl (Nat.le_of_ble_eq_true rfl) (by decide +kernel) (fun r33 h34 hm => ?_)
    refine q_lstore_n C Rm.1 (k4 := 3) (i := 3) rfl (lv' := [(3, .long r33), (0, .ref x0), (1, .ref x1), (2, .int x2)]) rfl (by decide) (by decide +kernel) ?_
    refine q_loc [1, 2, 3, 0] rfl ?_
    exact v_X1_chooseEfforts_132 C Rm K hk48 _ _ _ _ _ hm
def m_X1_chooseEfforts_48  : Nat → q_H → Nat → Nat → Int32 → Option q_H
  | 0, _, _, _, _ => none
  | n + 1, h, x0, x1, x2 =>
    (q_gn h x0 1 0).bind fun v17 =>
    (q_gi h v17 4 3).bind fun v18 =>
    if v18 ≤ x2 then
      some h
    else
      (q_gn h x0 1 2).bind fun v19 =>
      (q_ai h v19 1 x2).bind fun v20 =>
      (q_ca 10 h x1 (m_X10_stands h x1 x2)).bind fun r21 =>
      if r21 = 0 then
        m_X1_chooseEfforts_132 (m_X1_chooseEfforts_48 n) h x0 x1 x2 ((0 : Int64))
      else
        if (lg_cmp v20.toInt64 ((-1 : Int64))) = 0 then
          (q_go h x0 1 1).bind fun v23 =>
          if v23 = none then
            m_X1_chooseEfforts_132 (m_X1_chooseEfforts_48 n) h x0 x1 x2 ((2 : Int64))
          else
            m_X1_chooseEfforts_102 (m_X1_chooseEfforts_48 n) h x0 x1 x2 v20.toInt64
        else
          m_X1_chooseEfforts_102 (m_X1_chooseEfforts_48 n) h x0 x1 x2 v20.toInt64
set_option maxRecDepth 20000 in
set_option maxHeartbeats 1000000 in
theorem v_X1_chooseEfforts_48 {Γ : q_G} {sz : Nat} {h' : q_H} (C : q_C Γ cX1_chooseEfforts RX1) (Rm : q_Rm Γ 6 3 80 0 0)  (K : q_K Γ cX1_chooseEfforts .return_ sz h' 0 0 [])  : ∀ (n : Nat) (h : q_H) (x0 : Nat) (x1 : Nat) (x2 : Int32), m_X1_chooseEfforts_48 n h x0 x1 x2 = some h' → q_V Γ sz 0 0 h [(0, .ref x0), (1, .ref x1), (2, .int x2)] [] 48 := by
  intro n
  induction n with
  | zero => intro h x0 x1 x2 hm; cases hm
  | succ n ih =>
    intro h x0 x1 x2 hm
    unfold m_X1_chooseEfforts_48 at hm
    refine q_iload_n C (k4 := 2) 2 rfl (by decide +kernel) ?_
    refine q_aload_n C (k4 := 0) 0 rfl (by decide +kernel) ?_
    refine q_getn C fl_1_30 hm (by decide +kernel) (fun v17 hm => ?_)
    refine q_geti C fl_1_93 hm (by decide +kernel) (fun v18 hm => ?_)
    refine q_icmp_ge C (off := 112) 168 hm (by decide +kernel) (by decide) (fun _ hm => ?_) (fun _ hm => ?_)
    · exact q_rvS hm K (by decide +kernel)
    · refine q_aload_n C (k4 := 0) 0 rfl (by decide +kernel) ?_
      refine q_getn C fl_1_9 hm (by decide +kernel) (fun v19 hm => ?_)
      refine q_iload_n C (k4 := 2) 2 rfl (by decide +kernel) ?_
      refine q_ir C hm (by decide +kernel) (fun v20 hm => ?_)
      refine q_i2l C (by decide +kernel) ?_
      refine q_lstore_n C Rm.1 (k4 := 3) (i := 3) rfl (lv' := [(3, .long v20.toInt64), (0, .ref x0), (1, .ref x1), (2, .int x2)]) rfl (by decide) (by decide +kernel) ?_
      refine q_aload_n C (k4 := 1) 2 rfl (by decide +kernel) ?_
      refine q_iload_n C (k4 := 2) 3 rfl (by decide +kernel) ?_
      refine q_viP C Rm (As := [.int x2]) (rest := []) Y_X10_stands Yv_X10_stands ml_X1_105 (by decide) (by decide) hm (fun r9 e9 => c_X10_stands _ _ _ _ _ _ _ _ e9) rfl rfl (Nat.le_of_ble_eq_true rfl) (by decide +kernel) (fun r21 hm z22 => ?_)
      refine q_if_ne C (off := 8) 80 hm (by decide +kernel) (by decide) (fun _ hm => ?_) (fun _ hm => ?_)
      · refine q_lload_n C (k4 := 3) 0 rfl (by decide +kernel) ?_
        refine q_ldc2 C (idx := 108) (v := (-1)) (q_m4 8 rfl rfl) (by decide +kernel) ?_
        refine q_lcmp C (by decide +kernel) ?_
        refine q_if_ne C (off := 17) 102 hm (by decide +kernel) (by decide) (fun _ hm => ?_) (fun _ hm => ?_)
        · refine q_loc [1, 2, 3, 0] rfl ?_
          exact v_X1_chooseEfforts_102 C Rm K ih _ _ _ _ _ hm
        · refine q_aload_n C (k4 := 0) 1 rfl (by decide +kernel) ?_
          refine q_geto C fl_1_34 hm (by decide +kernel) (fun v23 hm => ?_)
          refine q_ifnonnull C (off := 10) 102 hm (by decide +kernel) (by decide) (fun _ hm => ?_) (fun _ hm => ?_)
          · refine q_loc [1, 2, 3, 0] rfl ?_
            exact v_X1_chooseEfforts_102 C Rm K ih _ _ _ _ _ hm
          · refine q_ldc2 C (idx := 110) (v := 2) (q_m4 9 rfl rfl) (by decide +kernel) ?_
            refine q_lstore_n C Rm.1 (k4 := 3) (i := 3) rfl (lv' := [(3, .long ((2 : Int64))), (0, .ref x0), (1, .ref x1), (2, .int x2)]) rfl (by decide) (by decide +kernel) ?_
            refine q_goto C (off := 33) 132 (by decide +kernel) (by decide) ?_
            refine q_loc [1, 2, 3, 0] rfl ?_
            exact v_X1_chooseEfforts_132 C Rm K ih _ _ _ _ _ hm
      · refine q_lconst C (n := 0) (v := 0) (by decide) (by decide +kernel) ?_
        refine q_lstore_n C Rm.1 (k4 := 3) (i := 3) rfl (lv' := [(3, .long ((0 : Int64))), (0, .ref x0), (1, .ref x1), (2, .int x2)]) rfl (by decide) (by decide +kernel) ?_
        refine q_goto C (off := 55) 132 (by decide +kernel) (by decide) ?_
        refine q_loc [1, 2, 3, 0] rfl ?_
        exact v_X1_chooseEfforts_132 C Rm K ih _ _ _ _ _ hm
def m_X1_chooseEfforts (h : q_H) (a0 : Nat) (a1 : Nat) : Option q_H :=
  (q_gn h a0 1 4).bind fun v1 =>
  (q_gi h a1 10 2).bind fun v2 =>
  (q_gn h a0 1 0).bind fun v3 =>
  (q_gi h v3 4 3).bind fun v4 =>
  (q_ca 10 h a1 (m_X10_setOnSide h a1 ((0 : Int32)) v4)).bind fun r5 =>
  (m_J6_bitCount_0f7a4 ((v2 &&& r5))).bind fun r7 =>
  (q_si h v1 1 ((0 : Int32)) r7).bind fun h9 =>
  (q_gn h9 a0 1 4).bind fun v10 =>
  (q_gi h9 a1 10 2).bind fun v11 =>
  (m_J6_bitCount_0f7a4 v11).bind fun r12 =>
  (q_gn h9 a0 1 4).bind fun v14 =>
  (q_ai h9 v14 1 ((0 : Int32))).bind fun v15 =>
  (q_si h9 v10 1 ((1 : Int32)) ((r12 - v15))).bind fun h16 =>
  m_X1_chooseEfforts_48 q_fu h16 a0 a1 ((0 : Int32))
set_option maxRecDepth 20000 in
set_option maxHeartbeats 1000000 in
theorem c_X1_chooseEfforts (l : Launch) (base : Nat) (D : va_G) (tc : Nat → ClassId) (sz : Nat) (h : q_H) (a0 : Nat) (a1 : Nat) {h' : q_H} (hm : m_X1_chooseEfforts h a0 a1 = some h') : q_M l yX1_chooseEfforts cX1_chooseEfforts 6 none 3 80 0 0 base D tc [.ref a0, .ref a1] sz h none sz h' := by
  refine q_startv (by decide) (Nat.le_of_ble_eq_true rfl) (fun Γ B K => ?_)
  obtain ⟨C, Rm, -⟩ := B
  have C : q_C Γ cX1_chooseEfforts RX1 := C
  show q_V Γ sz 0 0 h [(0, .ref a0), (1, .ref a1)] [] 0
  unfold m_X1_chooseEfforts at hm
  refine q_aload_n C (k4 := 0) 0 rfl (by decide +kernel) ?_
  refine q_getn C fl_1_18 hm (by decide +kernel) (fun v1 hm => ?_)
  refine q_iconst C (n := 0) (v := 0) (by decide) (by decide +kernel) ?_
  refine q_aload_n C (k4 := 1) 1 rfl (by decide +kernel) ?_
  refine q_geti C fl_1_87 hm (by decide +kernel) (fun v2 hm => ?_)
  refine q_aload_n C (k4 := 1) 1 rfl (by decide +kernel) ?_
  refine q_iconst C (n := 0) (v := 0) (by decide) (by decide +kernel) ?_
  refine q_aload_n C (k4 := 0) 0 rfl (by decide +kernel) ?_
  refine q_getn C fl_1_30 hm (by decide +kernel) (fun v3 hm => ?_)
  refine q_geti C fl_1_93 hm (by decide +kernel) (fun v4 hm => ?_)
  refine q_viP C Rm (As := [.int ((0 : Int32)), .int v4]) (rest := [.int v2, .int ((0 : Int32)), .ref v1]) Y_X10_setOnSide Yv_X10_setOnSide ml_X1_96 (by decide) (by decide) hm (fun r9 e9 => c_X10_setOnSide _ _ _ _ _ _ _ _ _ e9) rfl rfl (Nat.le_of_ble_eq_true rfl) (by decide +kernel) (fun r5 hm z6 => ?_)
  refine q_iand C (by decide +kernel) ?_
  refine q_siP C Rm (As := [.int ((v2 &&& r5))]) (rest := [.int ((0 : Int32)), .ref v1]) Y_J6_bitCount_0f7a4 Ys_J6_bitCount_0f7a4 ml_X1_99 (by decide) (by decide) hm (fun r9 e9 => c_J6_bitCount_0f7a4 _ _ _ _ _ _ _ e9) rfl rfl (Nat.le_of_ble_eq_true rfl) (by decide +kernel) (fun r7 hm z8 => ?_)
  refine q_iw C hm (by decide +kernel) (fun h9 hm => ?_)
  refine q_aload_n C (k4 := 0) 0 rfl (by decide +kernel) ?_
  refine q_getn C fl_1_18 hm (by decide +kernel) (fun v10 hm => ?_)
  refine q_iconst C (n := 1) (v := 1) (by decide) (by decide +kernel) ?_
  refine q_aload_n C (k4 := 1) 1 rfl (by decide +kernel) ?_
  refine q_geti C fl_1_87 hm (by decide +kernel) (fun v11 hm => ?_)
  refine q_siP C Rm (As := [.int v11]) (rest := [.int ((1 : Int32)), .ref v10]) Y_J6_bitCount_0f7a4 Ys_J6_bitCount_0f7a4 ml_X1_99 (by decide) (by decide) hm (fun r9 e9 => c_J6_bitCount_0f7a4 _ _ _ _ _ _ _ e9) rfl rfl (Nat.le_of_ble_eq_true rfl) (by decide +kernel) (fun r12 hm z13 => ?_)
  refine q_aload_n C (k4 := 0) 0 rfl (by decide +kernel) ?_
  refine q_getn C fl_1_18 hm (by decide +kernel) (fun v14 hm => ?_)
  refine q_iconst C (n := 0) (v := 0) (by decide) (by decide +kernel) ?_
  refine q_ir C hm (by decide +kernel) (fun v15 hm => ?_)
  refine q_isub C (by decide +kernel) ?_
  refine q_iw C hm (by decide +kernel) (fun h16 hm => ?_)
  refine q_iconst C (n := 0) (v := 0) (by decide) (by decide +kernel) ?_
  refine q_istore_n C Rm.1 (k4 := 2) (i := 2) rfl (lv' := [(2, .int ((0 : Int32))), (0, .ref a0), (1, .ref a1)]) rfl (by decide) (by decide +kernel) ?_
  refine q_loc [1, 2, 0] rfl ?_
  exact v_X1_chooseEfforts_48 C Rm K _ _ _ _ _ hm
def m_X1_drawn_52 (k4 : q_H → Nat → Nat → Int32 → Int32 → Option Int32) (h0 : q_H) (x0 : Nat) (x1 : Nat) (x3 : Int32) (s0 : Int32) (s1 : Int32) : Option Int32 :=
  k4 h0 x0 x1 ((s1 + s0)) ((x3 + (1 : Int32)))
set_option maxRecDepth 20000 in
set_option maxHeartbeats 1000000 in
theorem v_X1_drawn_52 {Γ : q_G} {sz : Nat} {h0 : q_H} {r : Int32} (C : q_C Γ cX1_drawn RX1) (Rm : q_Rm Γ 5 0 0 0 0) {k4 : q_H → Nat → Nat → Int32 → Int32 → Option Int32} (K : narrow .int (.int r) = .int r → q_K Γ cX1_drawn .ireturn sz h0 0 0 [.int r]) (hk4 : ∀ (x0 : Nat) (x1 : Nat) (x2 : Int32) (x3 : Int32), k4 h0 x0 x1 x2 x3 = some r → q_V Γ sz 0 0 h0 [(0, .ref x0), (1, .ref x1), (2, .int x2), (3, .int x3)] [] 4) : ∀ (x0 : Nat) (x1 : Nat) (x3 : Int32) (s0 : Int32) (s1 : Int32), m_X1_drawn_52 k4 h0 x0 x1 x3 s0 s1 = some r → q_V Γ sz 0 0 h0 [(0, .ref x0), (1, .ref x1), (3, .int x3)] [.int s0, .int s1] 52 := by
  intro x0 x1 x3 s0 s1 hm
  unfold m_X1_drawn_52 at hm
  refine q_iadd C (by decide +kernel) ?_
  refine q_istore_n C Rm.1 (k4 := 2) (i := 2) rfl (lv' := [(2, .int ((s1 + s0))), (0, .ref x0), (1, .ref x1), (3, .int x3)]) rfl (by decide) (by decide +kernel) ?_
  refine q_iinc C Rm.1 (i := 3) (n := 1) (v := (x3 + (1 : Int32))) 3 rfl (q_inc _ (by decide)) (lv' := [(3, .int ((x3 + (1 : Int32)))), (2, .int ((s1 + s0))), (0, .ref x0), (1, .ref x1)]) rfl (by decide) (by decide +kernel) ?_
  refine q_goto C (off := -53) 4 (by decide +kernel) (by decide) ?_
  refine q_loc [2, 3, 1, 0] rfl ?_
  exact hk4 _ _ _ _ hm
def m_X1_drawn_4  : Nat → q_H → Nat → Nat → Int32 → Int32 → Option Int32
  | 0, _, _, _, _, _ => none
  | n + 1, h0, x0, x1, x2, x3 =>
    (q_gn h0 x0 1 0).bind fun v1 =>
    (q_gi h0 v1 4 3).bind fun v2 =>
    if v2 ≤ x3 then
      some x2
    else
      (q_gn h0 x0 1 0).bind fun v3 =>
      (q_gn h0 v3 4 5).bind fun v4 =>
      (q_ai h0 v4 1 x3).bind fun v5 =>
      (q_gn h0 x0 1 3).bind fun v6 =>
      (q_ai h0 v6 1 x3).bind fun v7 =>
      (q_gn h0 x1 10 3).bind fun v8 =>
      (q_ai h0 v8 1 x3).bind fun v9 =>
      if v9 = (1 : Int32) then
        m_X1_drawn_52 (m_X1_drawn_4 n) h0 x0 x1 x3 ((v5 * v7)) x2
      else
        m_X1_drawn_52 (m_X1_drawn_4 n) h0 x0 x1 x3 ((0 - (v5 * v7))) x2
set_option maxRecDepth 20000 in
set_option maxHeartbeats 1000000 in
theorem v_X1_drawn_4 {Γ : q_G} {sz : Nat} {h0 : q_H} {r : Int32} (C : q_C Γ cX1_drawn RX1) (Rm : q_Rm Γ 5 0 0 0 0)  (K : narrow .int (.int r) = .int r → q_K Γ cX1_drawn .ireturn sz h0 0 0 [.int r])  : ∀ (n : Nat) (x0 : Nat) (x1 : Nat) (x2 : Int32) (x3 : Int32), m_X1_drawn_4 n h0 x0 x1 x2 x3 = some r → q_V Γ sz 0 0 h0 [(0, .ref x0), (1, .ref x1), (2, .int x2), (3, .int x3)] [] 4 := by
  intro n
  induction n with
  | zero => intro x0 x1 x2 x3 hm; cases hm
  | succ n ih =>
    intro x0 x1 x2 x3 hm
    unfold m_X1_drawn_4 at hm
    refine q_iload_n C (k4 := 3) 3 rfl (by decide +kernel) ?_
    refine q_aload_n C (k4 := 0) 0 rfl (by decide +kernel) ?_
    refine q_getn C fl_1_30 hm (by decide +kernel) (fun v1 hm => ?_)
    refine q_geti C fl_1_93 hm (by decide +kernel) (fun v2 hm => ?_)
    refine q_icmp_ge C (off := 48) 60 hm (by decide +kernel) (by decide) (fun _ hm => ?_) (fun _ hm => ?_)
    · refine q_iload_n C (k4 := 2) 2 rfl (by decide +kernel) ?_
      exact q_riP hm K rfl (by decide +kernel)
    · refine q_aload_n C (k4 := 0) 0 rfl (by decide +kernel) ?_
      refine q_getn C fl_1_30 hm (by decide +kernel) (fun v3 hm => ?_)
      refine q_getn C fl_1_131 hm (by decide +kernel) (fun v4 hm => ?_)
      refine q_iload_n C (k4 := 3) 3 rfl (by decide +kernel) ?_
      refine q_ir C hm (by decide +kernel) (fun v5 hm => ?_)
      refine q_aload_n C (k4 := 0) 0 rfl (by decide +kernel) ?_
      refine q_getn C fl_1_15 hm (by decide +kernel) (fun v6 hm => ?_)
      refine q_iload_n C (k4 := 3) 3 rfl (by decide +kernel) ?_
      refine q_ir C hm (by decide +kernel) (fun v7 hm => ?_)
      refine q_imul C (by decide +kernel) ?_
      refine q_istore C Rm.1 (i := 4) (lv' := [(4, .int ((v5 * v7))), (0, .ref x0), (1, .ref x1), (2, .int x2), (3, .int x3)]) rfl (by decide) (by decide +kernel) ?_
      refine q_iload_n C (k4 := 2) 3 rfl (by decide +kernel) ?_
      refine q_aload_n C (k4 := 1) 2 rfl (by decide +kernel) ?_
      refine q_getn C fl_1_128 hm (by decide +kernel) (fun v8 hm => ?_)
      refine q_iload_n C (k4 := 3) 4 rfl (by decide +kernel) ?_
      refine q_ir C hm (by decide +kernel) (fun v9 hm => ?_)
      refine q_iconst C (n := 1) (v := 1) (by decide) (by decide +kernel) ?_
      refine q_icmp_ne C (off := 8) 49 hm (by decide +kernel) (by decide) (fun _ hm => ?_) (fun _ hm => ?_)
      · refine q_iload C (i := 4) 0 rfl (by decide +kernel) ?_
        refine q_ineg C (by decide +kernel) ?_
        refine q_loc [1, 2, 4] rfl ?_
        exact v_X1_drawn_52 C Rm K ih _ _ _ _ _ hm
      · refine q_iload C (i := 4) 0 rfl (by decide +kernel) ?_
        refine q_goto C (off := 6) 52 (by decide +kernel) (by decide) ?_
        refine q_loc [1, 2, 4] rfl ?_
        exact v_X1_drawn_52 C Rm K ih _ _ _ _ _ hm
def m_X1_drawn (h0 : q_H) (a0 : Nat) (a1 : Nat) : Option Int32 :=
  m_X1_drawn_4 q_fu h0 a0 a1 ((0 : Int32)) ((0 : Int32))
set_option maxRecDepth 20000 in
set_option maxHeartbeats 1000000 in
theorem c_X1_drawn (l : Launch) (base : Nat) (D : va_G) (tc : Nat → ClassId) (sz : Nat) (h0 : q_H) (a0 : Nat) (a1 : Nat) {r : Int32} (hm : m_X1_drawn h0 a0 a1 = some r) : q_M l yX1_drawn cX1_drawn 5 (some .int) 0 0 0 0 base D tc [.ref a0, .ref a1] sz h0 (some (.int r)) sz h0 := by
  refine q_starti (by decide) (Nat.le_of_ble_eq_true rfl) (fun Γ B K => ?_)
  obtain ⟨C, Rm, -⟩ := B
  have C : q_C Γ cX1_drawn RX1 := C
  show q_V Γ sz 0 0 h0 [(0, .ref a0), (1, .ref a1)] [] 0
  unfold m_X1_drawn at hm
  refine q_iconst C (n := 0) (v := 0) (by decide) (by decide +kernel) ?_
  refine q_istore_n C Rm.1 (k4 := 2) (i := 2) rfl (lv' := [(2, .int ((0 : Int32))), (0, .ref a0), (1, .ref a1)]) rfl (by decide) (by decide +kernel) ?_
  refine q_iconst C (n := 0) (v := 0) (by decide) (by decide +kernel) ?_
  refine q_istore_n C Rm.1 (k4 := 3) (i := 3) rfl (lv' := [(3, .int ((0 : Int32))), (2, .int ((0 : Int32))), (0, .ref a0), (1, .ref a1)]) rfl (by decide) (by decide +kernel) ?_
  refine q_loc [2, 3, 1, 0] rfl ?_
  exact v_X1_drawn_4 C Rm K _ _ _ _ _ hm
def m_X1_tire_105 (k2 : q_H → Nat → Nat → Int32 → Option q_H) (h : q_H) (x0 : Nat) (x1 : Nat) (x2 : Int32) : Option q_H :=
  k2 h x0 x1 ((x2 + (1 : Int32)))
set_option maxRecDepth 20000 in
set_option maxHeartbeats 1000000 in
theorem v_X1_tire_105 {Γ : q_G} {sz : Nat} {h' : q_H} (C : q_C Γ cX1_tire RX1) (Rm : q_Rm Γ 4 3 80 0 0) {k2 : q_H → Nat → Nat → Int32 → Option q_H} (K : q_K Γ cX1_tire .return_ sz h' 0 0 []) (hk2 : ∀ (h : q_H) (x0 : Nat) (x1 : Nat) (x2 : Int32), k2 h x0 x1 x2 = some h' → q_V Γ sz 0 0 h [(0, .ref x0), (1, .ref x1), (2, .int x2)] [] 2) : ∀ (h : q_H) (x0 : Nat) (x1 : Nat) (x2 : Int32), m_X1_tire_105 k2 h x0 x1 x2 = some h' → q_V Γ sz 0 0 h [(0, .ref x0), (1, .ref x1), (2, .int x2)] [] 105 := by
  intro h x0 x1 x2 hm
  unfold m_X1_tire_105 at hm
  refine q_iinc C Rm.1 (i := 2) (n := 1) (v := (x2 + (1 : Int32))) 2 rfl (q_inc _ (by decide)) (lv' := [(2, .int ((x2 + (1 : Int32)))), (0, .ref x0), (1, .ref x1)]) rfl (by decide) (by decide +kernel) ?_
  refine q_goto C (off := -106) 2 (by decide +kernel) (by decide) ?_
  refine q_loc [1, 2, 0] rfl ?_
  exact hk2 _ _ _ _ hm
def m_X1_tire_2  : Nat → q_H → Nat → Nat → Int32 → Option q_H
  | 0, _, _, _, _ => none
  | n + 1, h, x0, x1, x2 =>
    (q_gn h x0 1 0).bind fun v1 =>
    (q_gi h v1 4 3).bind fun v2 =>
    if v2 ≤ x2 then
      some h
    else
      (q_gn h x1 10 5).bind fun v3 =>
      (q_ai h v3 1 x2).bind fun v4 =>
      (q_gn h x0 1 3).bind fun v5 =>
      (q_ai h v5 1 x2).bind fun v6 =>
      if v6 ≤ 0 then
        (q_gn h x0 1 0).bind fun v7 =>
        (q_gn h v7 4 6).bind fun v8 =>
        (q_ai h v8 1 x2).bind fun v9 =>
        if v9 ≤ v4 then
          m_X1_tire_105 (m_X1_tire_2 n) h x0 x1 x2
        else
          (q_gn h x1 10 5).bind fun v10 =>
          (q_gn h x0 1 0).bind fun v11 =>
          (q_gn h v11 4 6).bind fun v12 =>
          (q_ai h v12 1 x2).bind fun v13 =>
          (q_si h v10 1 x2 ((if (v4 + (2 : Int32)) < v13 then (v4 + (2 : Int32)) else v13))).bind fun h14 =>
          m_X1_tire_105 (m_X1_tire_2 n) h14 x0 x1 x2
      else
        (q_gn h x1 10 5).bind fun v15 =>
        (q_gn h x0 1 3).bind fun v16 =>
        (q_ai h v16 1 x2).bind fun v17 =>
        (q_si h v15 1 x2 ((v4 - v17))).bind fun h18 =>
        (q_gn h18 x1 10 6).bind fun v19 =>
        (q_gn h18 x1 10 6).bind fun v20 =>
        (q_ai h18 v20 1 x2).bind fun v21 =>
        (q_gn h18 x0 1 3).bind fun v22 =>
        (q_ai h18 v22 1 x2).bind fun v23 =>
        (q_si h18 v19 1 x2 ((if (v21 + v23) < (999 : Int32) then (v21 + v23) else (999 : Int32)))).bind fun h24 =>
        m_X1_tire_105 (m_X1_tire_2 n) h24 x0 x1 x2
set_option maxRecDepth 20000 in
set_option maxHeartbeats 1000000 in
theorem v_X1_tire_2 {Γ : q_G} {sz : Nat} {h' : q_H} (C : q_C Γ cX1_tire RX1) (Rm : q_Rm Γ 4 3 80 0 0)  (K : q_K Γ cX1_tire .return_ sz h' 0 0 [])  : ∀ (n : Nat) (h : q_H) (x0 : Nat) (x1 : Nat) (x2 : Int32), m_X1_tire_2 n h x0 x1 x2 = some h' → q_V Γ sz 0 0 h [(0, .ref x0), (1, .ref x1), (2, .int x2)] [] 2 := by
  intro n
  induction n with
  | zero => intro h x0 x1 x2 hm; cases hm
  | succ n ih =>
    intro h x0 x1 x2 hm
    unfold m_X1_tire_2 at hm
    refine q_iload_n C (k4 := 2) 2 rfl (by decide +kernel) ?_
    refine q_aload_n C (k4 := 0) 0 rfl (by decide +kernel) ?_
    refine q_getn C fl_1_30 hm (by decide +kernel) (fun v1 hm => ?_)
    refine q_geti C fl_1_93 hm (by decide +kernel) (fun v2 hm => ?_)
    refine q_icmp_ge C (off := 101) 111 hm (by decide +kernel) (by decide) (fun _ hm => ?_) (fun _ hm => ?_)
    · exact q_rvS hm K (by decide +kernel)
    · refine q_aload_n C (k4 := 1) 1 rfl (by decide +kernel) ?_
      refine q_getn C fl_1_120 hm (by decide +kernel) (fun v3 hm => ?_)
      refine q_iload_n C (k4 := 2) 2 rfl (by decide +kernel) ?_
      refine q_ir C hm (by decide +kernel) (fun v4 hm => ?_)
      refine q_istore_n C Rm.1 (k4 := 3) (i := 3) rfl (lv' := [(3, .int v4), (0, .ref x0), (1, .ref x1), (2, .int x2)]) rfl (by decide) (by decide +kernel) ?_
      refine q_aload_n C (k4 := 0) 1 rfl (by decide +kernel) ?_
      refine q_getn C fl_1_15 hm (by decide +kernel) (fun v5 hm => ?_)
      refine q_iload_n C (k4 := 2) 3 rfl (by decide +kernel) ?_
      refine q_ir C hm (by decide +kernel) (fun v6 hm => ?_)
      refine q_if_le C (off := 45) 71 hm (by decide +kernel) (by decide) (fun _ hm => ?_) (fun _ hm => ?_)
      · refine q_iload_n C (k4 := 3) 0 rfl (by decide +kernel) ?_
        refine q_aload_n C (k4 := 0) 1 rfl (by decide +kernel) ?_
        refine q_getn C fl_1_30 hm (by decide +kernel) (fun v7 hm => ?_)
        refine q_getn C fl_1_146 hm (by decide +kernel) (fun v8 hm => ?_)
        refine q_iload_n C (k4 := 2) 3 rfl (by decide +kernel) ?_
        refine q_ir C hm (by decide +kernel) (fun v9 hm => ?_)
        refine q_icmp_ge C (off := 24) 105 hm (by decide +kernel) (by decide) (fun _ hm => ?_) (fun _ hm => ?_)
        · refine q_loc [1, 2, 3] rfl ?_
          exact v_X1_tire_105 C Rm K ih _ _ _ _ hm
        · refine q_aload_n C (k4 := 1) 2 rfl (by decide +kernel) ?_
          refine q_getn C fl_1_120 hm (by decide +kernel) (fun v10 hm => ?_)
          refine q_iload_n C (k4 := 2) 3 rfl (by decide +kernel) ?_
          refine q_aload_n C (k4 := 0) 1 rfl (by decide +kernel) ?_
          refine q_getn C fl_1_30 hm (by decide +kernel) (fun v11 hm => ?_)
          refine q_getn C fl_1_146 hm (by decide +kernel) (fun v12 hm => ?_)
          refine q_iload_n C (k4 := 2) 3 rfl (by decide +kernel) ?_
          refine q_ir C hm (by decide +kernel) (fun v13 hm => ?_)
          refine q_iload_n C (k4 := 3) 0 rfl (by decide +kernel) ?_
          refine q_iconst C (n := 2) (v := 2) (by decide) (by decide +kernel) ?_
          refine q_iadd C (by decide +kernel) ?_
          refine q_mmin C Rm ml_X1_70 (by decide) (Nat.le_of_ble_eq_true rfl) ⟨Nat.le_refl _, Nat.le_refl _⟩ (by decide +kernel) ?_
          refine q_iw C hm (by decide +kernel) (fun h14 hm => ?_)
          refine q_loc [1, 2, 3] rfl ?_
          exact v_X1_tire_105 C Rm K ih _ _ _ _ hm
      · refine q_aload_n C (k4 := 1) 2 rfl (by decide +kernel) ?_
        refine q_getn C fl_1_120 hm (by decide +kernel) (fun v15 hm => ?_)
        refine q_iload_n C (k4 := 2) 3 rfl (by decide +kernel) ?_
        refine q_iload_n C (k4 := 3) 0 rfl (by decide +kernel) ?_
        refine q_aload_n C (k4 := 0) 1 rfl (by decide +kernel) ?_
        refine q_getn C fl_1_15 hm (by decide +kernel) (fun v16 hm => ?_)
        refine q_iload_n C (k4 := 2) 3 rfl (by decide +kernel) ?_
        refine q_ir C hm (by decide +kernel) (fun v17 hm => ?_)
        refine q_isub C (by decide +kernel) ?_
        refine q_iw C hm (by decide +kernel) (fun h18 hm => ?_)
        refine q_aload_n C (k4 := 1) 2 rfl (by decide +kernel) ?_
        refine q_getn C fl_1_143 hm (by decide +kernel) (fun v19 hm => ?_)
        refine q_iload_n C (k4 := 2) 3 rfl (by decide +kernel) ?_
        refine q_sipush C (n := 999) (v := 999) (by decide) (by decide +kernel) ?_
        refine q_aload_n C (k4 := 1) 2 rfl (by decide +kernel) ?_
        refine q_getn C fl_1_143 hm (by decide +kernel) (fun v20 hm => ?_)
        refine q_iload_n C (k4 := 2) 3 rfl (by decide +kernel) ?_
        refine q_ir C hm (by decide +kernel) (fun v21 hm => ?_)
        refine q_aload_n C (k4 := 0) 1 rfl (by decide +kernel) ?_
        refine q_getn C fl_1_15 hm (by decide +kernel) (fun v22 hm => ?_)
        refine q_iload_n C (k4 := 2) 3 rfl (by decide +kernel) ?_
        refine q_ir C hm (by decide +kernel) (fun v23 hm => ?_)
        refine q_iadd C (by decide +kernel) ?_
        refine q_mmin C Rm ml_X1_70 (by decide) (Nat.le_of_ble_eq_true rfl) ⟨Nat.le_refl _, Nat.le_refl _⟩ (by decide +kernel) ?_
        refine q_iw C hm (by decide +kernel) (fun h24 hm => ?_)
        refine q_goto C (off := 37) 105 (by decide +kernel) (by decide) ?_
        refine q_loc [1, 2, 3] rfl ?_
        exact v_X1_tire_105 C Rm K ih _ _ _ _ hm
def m_X1_tire (h : q_H) (a0 : Nat) (a1 : Nat) : Option q_H :=
  m_X1_tire_2 q_fu h a0 a1 ((0 : Int32))
set_option maxRecDepth 20000 in
set_option maxHeartbeats 1000000 in
theorem c_X1_tire (l : Launch) (base : Nat) (D : va_G) (tc : Nat → ClassId) (sz : Nat) (h : q_H) (a0 : Nat) (a1 : Nat) {h' : q_H} (hm : m_X1_tire h a0 a1 = some h') : q_M l yX1_tire cX1_tire 4 none 3 80 0 0 base D tc [.ref a0, .ref a1] sz h none sz h' := by
  refine q_startv (by decide) (Nat.le_of_ble_eq_true rfl) (fun Γ B K => ?_)
  obtain ⟨C, Rm, -⟩ := B
  have C : q_C Γ cX1_tire RX1 := C
  show q_V Γ sz 0 0 h [(0, .ref a0), (1, .ref a1)] [] 0
  unfold m_X1_tire at hm
  refine q_iconst C (n := 0) (v := 0) (by decide) (by decide +kernel) ?_
  refine q_istore_n C Rm.1 (k4 := 2) (i := 2) rfl (lv' := [(2, .int ((0 : Int32))), (0, .ref a0), (1, .ref a1)]) rfl (by decide) (by decide +kernel) ?_
  refine q_loc [1, 2, 0] rfl ?_
  exact v_X1_tire_2 C Rm K _ _ _ _ _ hm
def m_X4_everyone (h0 : q_H) (a0 : Nat) : Option Int32 :=
  (q_gi h0 a0 4 3).bind fun v1 =>
  some ((((1 : Int32) <<< (v1 &&& 31)) - (1 : Int32)))
set_option maxRecDepth 20000 in
set_option maxHeartbeats 1000000 in
theorem c_X4_everyone (l : Launch) (base : Nat) (D : va_G) (tc : Nat → ClassId) (sz : Nat) (h0 : q_H) (a0 : Nat) {r : Int32} (hm : m_X4_everyone h0 a0 = some r) : q_M l yX4_everyone cX4_everyone 1 (some .int) 0 0 0 0 base D tc [.ref a0] sz h0 (some (.int r)) sz h0 := by
  refine q_starti (by decide) (Nat.le_of_ble_eq_true rfl) (fun Γ B K => ?_)
  obtain ⟨C, Rm, -⟩ := B
  have C : q_C Γ cX4_everyone RX4 := C
  show q_V Γ sz 0 0 h0 [(0, .ref a0)] [] 0
  unfold m_X4_everyone at hm
  refine q_iconst C (n := 1) (v := 1) (by decide) (by decide +kernel) ?_
  refine q_aload_n C (k4 := 0) 0 rfl (by decide +kernel) ?_
  refine q_geti C fl_4_34 hm (by decide +kernel) (fun v1 hm => ?_)
  refine q_ishl C (by decide +kernel) ?_
  refine q_iconst C (n := 1) (v := 1) (by decide) (by decide +kernel) ?_
  refine q_isub C (by decide +kernel) ?_
  exact q_riP hm K rfl (by decide +kernel)
def m_X1_slipped_115 (k38 : q_H → Nat → Nat → Int32 → Int32 → Int32 → Int32 → Option Int32) (h0 : q_H) (x0 : Nat) (x1 : Nat) (x3 : Int32) (x4 : Int32) (x5 : Int32) (x6 : Int32) : Option Int32 :=
  k38 h0 x0 x1 x3 x4 x5 ((x6 + (1 : Int32)))
set_option maxRecDepth 20000 in
set_option maxHeartbeats 1000000 in
theorem v_X1_slipped_115 {Γ : q_G} {sz : Nat} {h0 : q_H} {r : Int32} (C : q_C Γ cX1_slipped RX1) (Rm : q_Rm Γ 8 3 80 0 0) {k38 : q_H → Nat → Nat → Int32 → Int32 → Int32 → Int32 → Option Int32} (K : narrow .int (.int r) = .int r → q_K Γ cX1_slipped .ireturn sz h0 0 0 [.int r]) (hk38 : ∀ (x0 : Nat) (x1 : Nat) (x3 : Int32) (x4 : Int32) (x5 : Int32) (x6 : Int32), k38 h0 x0 x1 x3 x4 x5 x6 = some r → q_V Γ sz 0 0 h0 [(0, .ref x0), (1, .ref x1), (3, .int x3), (4, .int x4), (5, .int x5), (6, .int x6)] [] 38) : ∀ (x0 : Nat) (x1 : Nat) (x3 : Int32) (x4 : Int32) (x5 : Int32) (x6 : Int32), m_X1_slipped_115 k38 h0 x0 x1 x3 x4 x5 x6 = some r → q_V Γ sz 0 0 h0 [(0, .ref x0), (1, .ref x1), (3, .int x3), (4, .int x4), (5, .int x5), (6, .int x6)] [] 115 := by
  intro x0 x1 x3 x4 x5 x6 hm
  unfold m_X1_slipped_115 at hm
  refine q_iinc C Rm.1 (i := 6) (n := 1) (v := (x6 + (1 : Int32))) 5 rfl (q_inc _ (by decide)) (lv' := [(6, .int ((x6 + (1 : Int32)))), (0, .ref x0), (1, .ref x1), (3, .int x3), (4, .int x4), (5, .int x5)]) rfl (by decide) (by decide +kernel) ?_
  refine q_goto C (off := -80) 38 (by decide +kernel) (by decide) ?_
  refine q_loc [1, 2, 3, 4, 5, 0] rfl ?_
  exact hk38 _ _ _ _ _ _ hm
def m_X1_slipped_111 (k38 : q_H → Nat → Nat → Int32 → Int32 → Int32 → Int32 → Option Int32) (h0 : q_H) (x0 : Nat) (x1 : Nat) (x3 : Int32) (x4 : Int32) (x6 : Int32) : Option Int32 :=
  m_X1_slipped_115 k38 h0 x0 x1 x3 x4 x6 x6
set_option maxRecDepth 20000 in
set_option maxHeartbeats 1000000 in
theorem v_X1_slipped_111 {Γ : q_G} {sz : Nat} {h0 : q_H} {r : Int32} (C : q_C Γ cX1_slipped RX1) (Rm : q_Rm Γ 8 3 80 0 0) {k38 : q_H → Nat → Nat → Int32 → Int32 → Int32 → Int32 → Option Int32} (K : narrow .int (.int r) = .int r → q_K Γ cX1_slipped .ireturn sz h0 0 0 [.int r]) (hk38 : ∀ (x0 : Nat) (x1 : Nat) (x3 : Int32) (x4 : Int32) (x5 : Int32) (x6 : Int32), k38 h0 x0 x1 x3 x4 x5 x6 = some r → q_V Γ sz 0 0 h0 [(0, .ref x0), (1, .ref x1), (3, .int x3), (4, .int x4), (5, .int x5), (6, .int x6)] [] 38) : ∀ (x0 : Nat) (x1 : Nat) (x3 : Int32) (x4 : Int32) (x6 : Int32), m_X1_slipped_111 k38 h0 x0 x1 x3 x4 x6 = some r → q_V Γ sz 0 0 h0 [(0, .ref x0), (1, .ref x1), (3, .int x3), (4, .int x4), (6, .int x6)] [] 111 := by
  intro x0 x1 x3 x4 x6 hm
  unfold m_X1_slipped_111 at hm
  refine q_iload C (i := 6) 4 rfl (by decide +kernel) ?_
  refine q_istore C Rm.1 (i := 5) (lv' := [(5, .int x6), (0, .ref x0), (1, .ref x1), (3, .int x3), (4, .int x4), (6, .int x6)]) rfl (by decide) (by decide +kernel) ?_
  refine q_loc [1, 2, 3, 4, 0, 5] rfl ?_
  exact v_X1_slipped_115 C Rm K hk38 _ _ _ _ _ _ hm
def m_X1_slipped_81 (k38 : q_H → Nat → Nat → Int32 → Int32 → Int32 → Int32 → Option Int32) (h0 : q_H) (x0 : Nat) (x1 : Nat) (x3 : Int32) (x4 : Int32) (x5 : Int32) (x6 : Int32) (s0 : Int32) : Option Int32 :=
  if s0 = 0 then
    m_X1_slipped_115 k38 h0 x0 x1 x3 x4 x5 x6
  else
    if x5 = (-1 : Int32) then
      m_X1_slipped_111 k38 h0 x0 x1 x3 x4 x6
    else
      (q_gn h0 x1 10 4).bind fun v10 =>
      (q_ai h0 v10 1 x6).bind fun v11 =>
      (q_gn h0 x1 10 4).bind fun v12 =>
      (q_ai h0 v12 1 x5).bind fun v13 =>
      if v13 ≤ v11 then
        m_X1_slipped_115 k38 h0 x0 x1 x3 x4 x5 x6
      else
        m_X1_slipped_111 k38 h0 x0 x1 x3 x4 x6
set_option maxRecDepth 20000 in
set_option maxHeartbeats 1000000 in
theorem v_X1_slipped_81 {Γ : q_G} {sz : Nat} {h0 : q_H} {r : Int32} (C : q_C Γ cX1_slipped RX1) (Rm : q_Rm Γ 8 3 80 0 0) {k38 : q_H → Nat → Nat → Int32 → Int32 → Int32 → Int32 → Option Int32} (K : narrow .int (.int r) = .int r → q_K Γ cX1_slipped .ireturn sz h0 0 0 [.int r]) (hk38 : ∀ (x0 : Nat) (x1 : Nat) (x3 : Int32) (x4 : Int32) (x5 : Int32) (x6 : Int32), k38 h0 x0 x1 x3 x4 x5 x6 = some r → q_V Γ sz 0 0 h0 [(0, .ref x0), (1, .ref x1), (3, .int x3), (4, .int x4), (5, .int x5), (6, .int x6)] [] 38) : ∀ (x0 : Nat) (x1 : Nat) (x3 : Int32) (x4 : Int32) (x5 : Int32) (x6 : Int32) (s0 : Int32), m_X1_slipped_81 k38 h0 x0 x1 x3 x4 x5 x6 s0 = some r → q_V Γ sz 0 0 h0 [(0, .ref x0), (1, .ref x1), (3, .int x3), (4, .int x4), (5, .int x5), (6, .int x6)] [.int s0] 81 := by
  intro x0 x1 x3 x4 x5 x6 s0 hm
  unfold m_X1_slipped_81 at hm
  refine q_istore C Rm.1 (i := 7) (lv' := [(7, .int s0), (0, .ref x0), (1, .ref x1), (3, .int x3), (4, .int x4), (5, .int x5), (6, .int x6)]) rfl (by decide) (by decide +kernel) ?_
  refine q_iload C (i := 7) 0 rfl (by decide +kernel) ?_
  refine q_if_eq C (off := 30) 115 hm (by decide +kernel) (by decide) (fun _ hm => ?_) (fun _ hm => ?_)
  · refine q_loc [1, 2, 3, 4, 5, 6] rfl ?_
    exact v_X1_slipped_115 C Rm K hk38 _ _ _ _ _ _ hm
  · refine q_iload C (i := 5) 5 rfl (by decide +kernel) ?_
    refine q_iconst C (n := (-1)) (v := (-1)) (by decide) (by decide +kernel) ?_
    refine q_icmp_eq C (off := 20) 111 hm (by decide +kernel) (by decide) (fun _ hm => ?_) (fun _ hm => ?_)
    · refine q_loc [1, 2, 3, 4, 6] rfl ?_
      exact v_X1_slipped_111 C Rm K hk38 _ _ _ _ _ hm
    · refine q_aload_n C (k4 := 1) 2 rfl (by decide +kernel) ?_
      refine q_getn C fl_1_137 hm (by decide +kernel) (fun v10 hm => ?_)
      refine q_iload C (i := 6) 6 rfl (by decide +kernel) ?_
      refine q_ir C hm (by decide +kernel) (fun v11 hm => ?_)
      refine q_aload_n C (k4 := 1) 2 rfl (by decide +kernel) ?_
      refine q_getn C fl_1_137 hm (by decide +kernel) (fun v12 hm => ?_)
      refine q_iload C (i := 5) 5 rfl (by decide +kernel) ?_
      refine q_ir C hm (by decide +kernel) (fun v13 hm => ?_)
      refine q_icmp_ge C (off := 7) 115 hm (by decide +kernel) (by decide) (fun _ hm => ?_) (fun _ hm => ?_)
      · refine q_loc [1, 2, 3, 4, 5, 6] rfl ?_
        exact v_X1_slipped_115 C Rm K hk38 _ _ _ _ _ _ hm
      · refine q_loc [1, 2, 3, 4, 6] rfl ?_
        exact v_X1_slipped_111 C Rm K hk38 _ _ _ _ _ hm
def m_X1_slipped_80 (k38 : q_H → Nat → Nat → Int32 → Int32 → Int32 → Int32 → Option Int32) (h0 : q_H) (x0 : Nat) (x1 : Nat) (x3 : Int32) (x4 : Int32) (x5 : Int32) (x6 : Int32) : Option Int32 :=
  m_X1_slipped_81 k38 h0 x0 x1 x3 x4 x5 x6 ((0 : Int32))
set_option maxRecDepth 20000 in
set_option maxHeartbeats 1000000 in
theorem v_X1_slipped_80 {Γ : q_G} {sz : Nat} {h0 : q_H} {r : Int32} (C : q_C Γ cX1_slipped RX1) (Rm : q_Rm Γ 8 3 80 0 0) {k38 : q_H → Nat → Nat → Int32 → Int32 → Int32 → Int32 → Option Int32} (K : narrow .int (.int r) = .int r → q_K Γ cX1_slipped .ireturn sz h0 0 0 [.int r]) (hk38 : ∀ (x0 : Nat) (x1 : Nat) (x3 : Int32) (x4 : Int32) (x5 : Int32) (x6 : Int32), k38 h0 x0 x1 x3 x4 x5 x6 = some r → q_V Γ sz 0 0 h0 [(0, .ref x0), (1, .ref x1), (3, .int x3), (4, .int x4), (5, .int x5), (6, .int x6)] [] 38) : ∀ (x0 : Nat) (x1 : Nat) (x3 : Int32) (x4 : Int32) (x5 : Int32) (x6 : Int32), m_X1_slipped_80 k38 h0 x0 x1 x3 x4 x5 x6 = some r → q_V Γ sz 0 0 h0 [(0, .ref x0), (1, .ref x1), (3, .int x3), (4, .int x4), (5, .int x5), (6, .int x6)] [] 80 := by
  intro x0 x1 x3 x4 x5 x6 hm
  unfold m_X1_slipped_80 at hm
  refine q_iconst C (n := 0) (v := 0) (by decide) (by decide +kernel) ?_
  exact v_X1_slipped_81 C Rm K hk38 _ _ _ _ _ _ _ hm
def m_X1_slipped_38  : Nat → q_H → Nat → Nat → Int32 → Int32 → Int32 → Int32 → Option Int32
  | 0, _, _, _, _, _, _, _ => none
  | n + 1, h0, x0, x1, x3, x4, x5, x6 =>
    (q_gn h0 x0 1 0).bind fun v3 =>
    (q_gi h0 v3 4 3).bind fun v4 =>
    if v4 ≤ x6 then
      if x5 = (-1 : Int32) then
        some ((0 : Int32))
      else
        some (((1 : Int32) <<< (x5 &&& 31)))
    else
      (q_gn h0 x1 10 3).bind fun v5 =>
      (q_ai h0 v5 1 x6).bind fun v6 =>
      if v6 = x3 then
        (q_gn h0 x0 1 0).bind fun v7 =>
        (q_gn h0 v7 4 7).bind fun v8 =>
        (q_ai h0 v8 1 x6).bind fun v9 =>
        if x4 ≤ v9 then
          m_X1_slipped_80 (m_X1_slipped_38 n) h0 x0 x1 x3 x4 x5 x6
        else
          m_X1_slipped_81 (m_X1_slipped_38 n) h0 x0 x1 x3 x4 x5 x6 ((1 : Int32))
      else
        m_X1_slipped_80 (m_X1_slipped_38 n) h0 x0 x1 x3 x4 x5 x6
set_option maxRecDepth 20000 in
set_option maxHeartbeats 1000000 in
theorem v_X1_slipped_38 {Γ : q_G} {sz : Nat} {h0 : q_H} {r : Int32} (C : q_C Γ cX1_slipped RX1) (Rm : q_Rm Γ 8 3 80 0 0)  (K : narrow .int (.int r) = .int r → q_K Γ cX1_slipped .ireturn sz h0 0 0 [.int r])  : ∀ (n : Nat) (x0 : Nat) (x1 : Nat) (x3 : Int32) (x4 : Int32) (x5 : Int32) (x6 : Int32), m_X1_slipped_38 n h0 x0 x1 x3 x4 x5 x6 = some r → q_V Γ sz 0 0 h0 [(0, .ref x0), (1, .ref x1), (3, .int x3), (4, .int x4), (5, .int x5), (6, .int x6)] [] 38 := by
  intro n
  induction n with
  | zero => intro x0 x1 x3 x4 x5 x6 hm; cases hm
  | succ n ih =>
    intro x0 x1 x3 x4 x5 x6 hm
    unfold m_X1_slipped_38 at hm
    refine q_iload C (i := 6) 5 rfl (by decide +kernel) ?_
    refine q_aload_n C (k4 := 0) 0 rfl (by decide +kernel) ?_
    refine q_getn C fl_1_30 hm (by decide +kernel) (fun v3 hm => ?_)
    refine q_geti C fl_1_93 hm (by decide +kernel) (fun v4 hm => ?_)
    refine q_icmp_ge C (off := 74) 121 hm (by decide +kernel) (by decide) (fun _ hm => ?_) (fun _ hm => ?_)
    · refine q_iload C (i := 5) 4 rfl (by decide +kernel) ?_
      refine q_iconst C (n := (-1)) (v := (-1)) (by decide) (by decide +kernel) ?_
      refine q_icmp_ne C (off := 7) 131 hm (by decide +kernel) (by decide) (fun _ hm => ?_) (fun _ hm => ?_)
      · refine q_iconst C (n := 1) (v := 1) (by decide) (by decide +kernel) ?_
        refine q_iload C (i := 5) 4 rfl (by decide +kernel) ?_
        refine q_ishl C (by decide +kernel) ?_
        exact q_riP hm K rfl (by decide +kernel)
      · refine q_iconst C (n := 0) (v := 0) (by decide) (by decide +kernel) ?_
        refine q_goto C (off := 7) 135 (by decide +kernel) (by decide) ?_
        exact q_riP hm K rfl (by decide +kernel)
    · refine q_aload_n C (k4 := 1) 1 rfl (by decide +kernel) ?_
      refine q_getn C fl_1_128 hm (by decide +kernel) (fun v5 hm => ?_)
      refine q_iload C (i := 6) 5 rfl (by decide +kernel) ?_
      refine q_ir C hm (by decide +kernel) (fun v6 hm => ?_)
      refine q_iload_n C (k4 := 3) 2 rfl (by decide +kernel) ?_
      refine q_icmp_ne C (off := 22) 80 hm (by decide +kernel) (by decide) (fun _ hm => ?_) (fun _ hm => ?_)
      · exact v_X1_slipped_80 C Rm K ih _ _ _ _ _ _ hm
      · refine q_aload_n C (k4 := 0) 0 rfl (by decide +kernel) ?_
        refine q_getn C fl_1_30 hm (by decide +kernel) (fun v7 hm => ?_)
        refine q_getn C fl_1_134 hm (by decide +kernel) (fun v8 hm => ?_)
        refine q_iload C (i := 6) 5 rfl (by decide +kernel) ?_
        refine q_ir C hm (by decide +kernel) (fun v9 hm => ?_)
        refine q_iload C (i := 4) 3 rfl (by decide +kernel) ?_
        refine q_icmp_ge C (off := 7) 80 hm (by decide +kernel) (by decide) (fun _ hm => ?_) (fun _ hm => ?_)
        · exact v_X1_slipped_80 C Rm K ih _ _ _ _ _ _ hm
        · refine q_iconst C (n := 1) (v := 1) (by decide) (by decide +kernel) ?_
          refine q_goto C (off := 4) 81 (by decide +kernel) (by decide) ?_
          exact v_X1_slipped_81 C Rm K ih _ _ _ _ _ _ _ hm
def m_X1_slipped_15  (h0 : q_H) (x0 : Nat) (x1 : Nat) (x2 : Int32) (s0 : Int32) : Option Int32 :=
  (q_gn h0 x0 1 0).bind fun v1 =>
  (q_gi h0 v1 4 1).bind fun v2 =>
  m_X1_slipped_38 q_fu h0 x0 x1 s0 ((((if 0 ≤ x2 then x2 else 0 - x2) + v2) - (5 : Int32))) ((-1 : Int32)) ((0 : Int32))
set_option maxRecDepth 20000 in
set_option maxHeartbeats 1000000 in
theorem v_X1_slipped_15 {Γ : q_G} {sz : Nat} {h0 : q_H} {r : Int32} (C : q_C Γ cX1_slipped RX1) (Rm : q_Rm Γ 8 3 80 0 0)  (K : narrow .int (.int r) = .int r → q_K Γ cX1_slipped .ireturn sz h0 0 0 [.int r])  : ∀ (x0 : Nat) (x1 : Nat) (x2 : Int32) (s0 : Int32), m_X1_slipped_15 h0 x0 x1 x2 s0 = some r → q_V Γ sz 0 0 h0 [(0, .ref x0), (1, .ref x1), (2, .int x2)] [.int s0] 15 := by
  intro x0 x1 x2 s0 hm
  unfold m_X1_slipped_15 at hm
  refine q_istore_n C Rm.1 (k4 := 3) (i := 3) rfl (lv' := [(3, .int s0), (0, .ref x0), (1, .ref x1), (2, .int x2)]) rfl (by decide) (by decide +kernel) ?_
  refine q_iload_n C (k4 := 2) 3 rfl (by decide +kernel) ?_
  refine q_mabs C Rm ml_X1_147 (by decide) (Nat.le_of_ble_eq_true rfl) ⟨Nat.le_refl _, Nat.le_refl _⟩ (by decide +kernel) ?_
  refine q_aload_n C (k4 := 0) 1 rfl (by decide +kernel) ?_
  refine q_getn C fl_1_30 hm (by decide +kernel) (fun v1 hm => ?_)
  refine q_geti C fl_1_150 hm (by decide +kernel) (fun v2 hm => ?_)
  refine q_iadd C (by decide +kernel) ?_
  refine q_iconst C (n := 5) (v := 5) (by decide) (by decide +kernel) ?_
  refine q_isub C (by decide +kernel) ?_
  refine q_istore C Rm.1 (i := 4) (lv' := [(4, .int ((((if 0 ≤ x2 then x2 else 0 - x2) + v2) - (5 : Int32)))), (3, .int s0), (0, .ref x0), (1, .ref x1), (2, .int x2)]) rfl (by decide) (by decide +kernel) ?_
  refine q_iconst C (n := (-1)) (v := (-1)) (by decide) (by decide +kernel) ?_
  refine q_istore C Rm.1 (i := 5) (lv' := [(5, .int ((-1 : Int32))), (4, .int ((((if 0 ≤ x2 then x2 else 0 - x2) + v2) - (5 : Int32)))), (3, .int s0), (0, .ref x0), (1, .ref x1), (2, .int x2)]) rfl (by decide) (by decide +kernel) ?_
  refine q_iconst C (n := 0) (v := 0) (by decide) (by decide +kernel) ?_
  refine q_istore C Rm.1 (i := 6) (lv' := [(6, .int ((0 : Int32))), (5, .int ((-1 : Int32))), (4, .int ((((if 0 ≤ x2 then x2 else 0 - x2) + v2) - (5 : Int32)))), (3, .int s0), (0, .ref x0), (1, .ref x1), (2, .int x2)]) rfl (by decide) (by decide +kernel) ?_
  refine q_loc [4, 5, 3, 2, 1, 0] rfl ?_
  exact v_X1_slipped_38 C Rm K _ _ _ _ _ _ _ hm
def m_X1_slipped (h0 : q_H) (a0 : Nat) (a1 : Nat) (a2 : Int32) : Option Int32 :=
  if a2 = 0 then
    some ((0 : Int32))
  else
    if a2 ≤ 0 then
      m_X1_slipped_15 h0 a0 a1 a2 ((1 : Int32))
    else
      m_X1_slipped_15 h0 a0 a1 a2 ((0 : Int32))
set_option maxRecDepth 20000 in
set_option maxHeartbeats 1000000 in
theorem c_X1_slipped (l : Launch) (base : Nat) (D : va_G) (tc : Nat → ClassId) (sz : Nat) (h0 : q_H) (a0 : Nat) (a1 : Nat) (a2 : Int32) {r : Int32} (hm : m_X1_slipped h0 a0 a1 a2 = some r) : q_M l yX1_slipped cX1_slipped 8 (some .int) 3 80 0 0 base D tc [.ref a0, .ref a1, .int a2] sz h0 (some (.int r)) sz h0 := by
  refine q_starti (by decide) (Nat.le_of_ble_eq_true rfl) (fun Γ B K => ?_)
  obtain ⟨C, Rm, -⟩ := B
  have C : q_C Γ cX1_slipped RX1 := C
  show q_V Γ sz 0 0 h0 [(0, .ref a0), (1, .ref a1), (2, .int a2)] [] 0
  unfold m_X1_slipped at hm
  refine q_iload_n C (k4 := 2) 2 rfl (by decide +kernel) ?_
  refine q_if_ne C (off := 5) 6 hm (by decide +kernel) (by decide) (fun _ hm => ?_) (fun _ hm => ?_)
  · refine q_iload_n C (k4 := 2) 2 rfl (by decide +kernel) ?_
    refine q_if_le C (off := 7) 14 hm (by decide +kernel) (by decide) (fun _ hm => ?_) (fun _ hm => ?_)
    · refine q_iconst C (n := 1) (v := 1) (by decide) (by decide +kernel) ?_
      exact v_X1_slipped_15 C Rm K _ _ _ _ hm
    · refine q_iconst C (n := 0) (v := 0) (by decide) (by decide +kernel) ?_
      refine q_goto C (off := 4) 15 (by decide +kernel) (by decide) ?_
      exact v_X1_slipped_15 C Rm K _ _ _ _ hm
  · refine q_iconst C (n := 0) (v := 0) (by decide) (by decide +kernel) ?_
    exact q_riP hm K rfl (by decide +kernel)
def m_X1_heaveOn_89 (k2 : q_H → Nat → Nat → Int32 → Int32 → Option q_H) (h : q_H) (x0 : Nat) (x1 : Nat) (x2 : Int32) (x3 : Int32) : Option q_H :=
  (q_gi h x1 10 1).bind fun v20 =>
  (q_pf h x1 10 1 (.int ((v20 + (1 : Int32))))).bind fun h21 =>
  k2 h21 x0 x1 x2 ((x3 + (1 : Int32)))
set_option maxRecDepth 20000 in
set_option maxHeartbeats 1000000 in
theorem v_X1_heaveOn_89 {Γ : q_G} {sz : Nat} {h' : q_H} (C : q_C Γ cX1_heaveOn RX1) (Rm : q_Rm Γ 5 4 107 0 0) {k2 : q_H → Nat → Nat → Int32 → Int32 → Option q_H} (K : q_K Γ cX1_heaveOn .return_ sz h' 0 0 []) (hk2 : ∀ (h : q_H) (x0 : Nat) (x1 : Nat) (x2 : Int32) (x3 : Int32), k2 h x0 x1 x2 x3 = some h' → q_V Γ sz 0 0 h [(0, .ref x0), (1, .ref x1), (2, .int x2), (3, .int x3)] [] 2) : ∀ (h : q_H) (x0 : Nat) (x1 : Nat) (x2 : Int32) (x3 : Int32), m_X1_heaveOn_89 k2 h x0 x1 x2 x3 = some h' → q_V Γ sz 0 0 h [(0, .ref x0), (1, .ref x1), (2, .int x2), (3, .int x3)] [] 89 := by
  intro h x0 x1 x2 x3 hm
  unfold m_X1_heaveOn_89 at hm
  refine q_aload_n C (k4 := 1) 1 rfl (by decide +kernel) ?_
  refine q_dup C rfl (by decide +kernel) ?_
  refine q_geti C fl_1_90 hm (by decide +kernel) (fun v20 hm => ?_)
  refine q_iconst C (n := 1) (v := 1) (by decide) (by decide +kernel) ?_
  refine q_iadd C (by decide +kernel) ?_
  refine q_putf C fl_1_90 hm rfl rfl (by decide +kernel) (fun h21 hm => ?_)
  refine q_iinc C Rm.1 (i := 3) (n := 1) (v := (x3 + (1 : Int32))) 3 rfl (q_inc _ (by decide)) (lv' := [(3, .int ((x3 + (1 : Int32)))), (0, .ref x0), (1, .ref x1), (2, .int x2)]) rfl (by decide) (by decide +kernel) ?_
  refine q_goto C (off := -100) 2 (by decide +kernel) (by decide) ?_
  refine q_loc [1, 2, 3, 0] rfl ?_
  exact hk2 _ _ _ _ _ hm
def m_X1_heaveOn_2  : Nat → q_H → Nat → Nat → Int32 → Int32 → Option q_H
  | 0, _, _, _, _, _ => none
  | n + 1, h, x0, x1, x2, x3 =>
    if x2 ≤ x3 then
      some h
    else
      (q_go h x0 1 0).bind fun v1 =>
      if v1 = none then
        some h
      else
        (q_gn h x0 1 0).bind fun v2 =>
        (q_gi h v2 4 0).bind fun v3 =>
        (q_ca 10 h x1 (m_X10_isOver h x1 v3)).bind fun r4 =>
        if r4 = 0 then
          (q_ca 1 h x0 (m_X1_chooseEfforts h x0 x1)).bind fun h7 =>
          (q_ca 1 h7 x0 (m_X1_drawn h7 x0 x1)).bind fun r8 =>
          (q_ca 1 h7 x0 (m_X1_tire h7 x0 x1)).bind fun h11 =>
          (q_gi h11 x1 10 0).bind fun v12 =>
          (q_pf h11 x1 10 0 (.int ((if (-99 : Int32) < (if (v12 + (r8 / (4 : Int32))) < (99 : Int32) then (v12 + (r8 / (4 : Int32))) else (99 : Int32)) then (if (v12 + (r8 / (4 : Int32))) < (99 : Int32) then (v12 + (r8 / (4 : Int32))) else (99 : Int32)) else (-99 : Int32))))).bind fun h13 =>
          (q_gn h13 x0 1 0).bind fun v14 =>
          (q_ca 4 h13 v14 (m_X4_everyone h13 v14)).bind fun r15 =>
          (q_ca 1 h13 x0 (m_X1_slipped h13 x0 x1 ((r8 / (4 : Int32))))).bind fun r17 =>
          (q_pf h13 x1 10 2 (.int ((r15 &&& (r17 ^^^ (-1 : Int32)))))).bind fun h19 =>
          m_X1_heaveOn_89 (m_X1_heaveOn_2 n) h19 x0 x1 x2 x3
        else
          m_X1_heaveOn_89 (m_X1_heaveOn_2 n) h x0 x1 x2 x3
set_option maxRecDepth 20000 in
set_option maxHeartbeats 1000000 in
theorem v_X1_heaveOn_2 {Γ : q_G} {sz : Nat} {h' : q_H} (C : q_C Γ cX1_heaveOn RX1) (Rm : q_Rm Γ 5 4 107 0 0)  (K : q_K Γ cX1_heaveOn .return_ sz h' 0 0 [])  : ∀ (n : Nat) (h : q_H) (x0 : Nat) (x1 : Nat) (x2 : Int32) (x3 : Int32), m_X1_heaveOn_2 n h x0 x1 x2 x3 = some h' → q_V Γ sz 0 0 h [(0, .ref x0), (1, .ref x1), (2, .int x2), (3, .int x3)] [] 2 := by
  intro n
  induction n with
  | zero => intro h x0 x1 x2 x3 hm; cases hm
  | succ n ih =>
    intro h x0 x1 x2 x3 hm
    unfold m_X1_heaveOn_2 at hm
    refine q_iload_n C (k4 := 3) 3 rfl (by decide +kernel) ?_
    refine q_iload_n C (k4 := 2) 2 rfl (by decide +kernel) ?_
    refine q_icmp_ge C (off := 101) 105 hm (by decide +kernel) (by decide) (fun _ hm => ?_) (fun _ hm => ?_)
    · exact q_rvS hm K (by decide +kernel)
    · refine q_aload_n C (k4 := 0) 0 rfl (by decide +kernel) ?_
      refine q_geto C fl_1_30 hm (by decide +kernel) (fun v1 hm => ?_)
      refine q_ifnull C (off := 94) 105 hm (by decide +kernel) (by decide) (fun _ hm => ?_) (fun _ hm => ?_)
      · exact q_rvS hm K (by decide +kernel)
      · refine q_aload_n C (k4 := 1) 1 rfl (by decide +kernel) ?_
        refine q_aload_n C (k4 := 0) 0 rfl (by decide +kernel) ?_
        refine q_getn C fl_1_30 hm (by decide +kernel) (fun v2 hm => ?_)
        refine q_geti C fl_1_44 hm (by decide +kernel) (fun v3 hm => ?_)
        refine q_viP C Rm (As := [.int v3]) (rest := []) Y_X10_isOver Yv_X10_isOver ml_X1_50 (by decide) (by decide) hm (fun r9 e9 => c_X10_isOver _ _ _ _ _ _ _ _ e9) rfl rfl (Nat.le_of_ble_eq_true rfl) (by decide +kernel) (fun r4 hm z5 => ?_)
        refine q_if_ne C (off := 64) 89 hm (by decide +kernel) (by decide) (fun _ hm => ?_) (fun _ hm => ?_)
        · exact v_X1_heaveOn_89 C Rm K ih _ _ _ _ _ hm
        · refine q_aload_n C (k4 := 0) 0 rfl (by decide +kernel) ?_
          refine q_aload_n C (k4 := 1) 1 rfl (by decide +kernel) ?_
          refine q_vvS C Rm (As := [.ref x1]) (rest := []) Y_X1_chooseEfforts Yv_X1_chooseEfforts ml_X1_56 (by decide) (by decide) hm (fun h7 e9 => c_X1_chooseEfforts _ _ _ _ _ _ _ _ e9) rfl rfl (Nat.le_of_ble_eq_true rfl) (by decide +kernel) (fun h7 hm => ?_)
          refine q_aload_n C (k4 := 0) 0 rfl (by decide +kernel) ?_
          refine q_aload_n C (k4 := 1) 1 rfl (by decide +kernel) ?_
          refine q_viP C Rm (As := [.ref x1]) (rest := []) Y_X1_drawn Yv_X1_drawn ml_X1_60 (by decide) (by decide) hm (fun r9 e9 => c_X1_drawn _ _ _ _ _ _ _ _ e9) rfl rfl (Nat.le_of_ble_eq_true rfl) (by decide +kernel) (fun r8 hm z9 => ?_)
          refine q_iconst C (n := 4) (v := 4) (by decide) (by decide +kernel) ?_
          refine q_idiv C (by decide) (by decide +kernel) ?_
          refine q_istore C Rm.1 (i := 4) (lv' := [(4, .int ((r8 / (4 : Int32)))), (0, .ref x0), (1, .ref x1), (2, .int x2), (3, .int x3)]) rfl (by decide) (by decide +kernel) ?_
          refine q_aload_n C (k4 := 0) 1 rfl (by decide +kernel) ?_
          refine q_aload_n C (k4 := 1) 2 rfl (by decide +kernel) ?_
          refine q_vvS C Rm (As := [.ref x1]) (rest := []) Y_X1_tire Yv_X1_tire ml_X1_64 (by decide) (by decide) hm (fun h11 e9 => c_X1_tire _ _ _ _ _ _ _ _ e9) rfl rfl (Nat.le_of_ble_eq_true rfl) (by decide +kernel) (fun h11 hm => ?_)
          refine q_aload_n C (k4 := 1) 2 rfl (by decide +kernel) ?_
          refine q_bipush C (n := (-99)) (v := (-99)) (by decide) (by decide +kernel) ?_
          refine q_bipush C (n := 99) (v := 99) (by decide) (by decide +kernel) ?_
          refine q_aload_n C (k4 := 1) 2 rfl (by decide +kernel) ?_
          refine q_geti C fl_1_67 hm (by decide +kernel) (fun v12 hm => ?_)
          refine q_iload C (i := 4) 0 rfl (by decide +kernel) ?_
          refine q_iadd C (by decide +kernel) ?_
          refine q_mmin C Rm ml_X1_70 (by decide) (Nat.le_of_ble_eq_true rfl) ⟨Nat.le_refl _, Nat.le_refl _⟩ (by decide +kernel) ?_
          refine q_mmax C Rm ml_X1_76 (by decide) (Nat.le_of_ble_eq_true rfl) ⟨Nat.le_refl _, Nat.le_refl _⟩ (by decide +kernel) ?_
          refine q_putf C fl_1_67 hm rfl rfl (by decide +kernel) (fun h13 hm => ?_)
          refine q_aload_n C (k4 := 1) 2 rfl (by decide +kernel) ?_
          refine q_aload_n C (k4 := 0) 1 rfl (by decide +kernel) ?_
          refine q_getn C fl_1_30 hm (by decide +kernel) (fun v14 hm => ?_)
          refine q_viP C Rm (As := []) (rest := [.ref x1]) Y_X4_everyone Yv_X4_everyone ml_X1_79 (by decide) (by decide) hm (fun r9 e9 => c_X4_everyone _ _ _ _ _ _ _ e9) rfl rfl (Nat.le_of_ble_eq_true rfl) (by decide +kernel) (fun r15 hm z16 => ?_)
          refine q_aload_n C (k4 := 0) 1 rfl (by decide +kernel) ?_
          refine q_aload_n C (k4 := 1) 2 rfl (by decide +kernel) ?_
          refine q_iload C (i := 4) 0 rfl (by decide +kernel) ?_
          refine q_viP C Rm (As := [.ref x1, .int ((r8 / (4 : Int32)))]) (rest := [.int r15, .ref x1]) Y_X1_slipped Yv_X1_slipped ml_X1_83 (by decide) (by decide) hm (fun r9 e9 => c_X1_slipped _ _ _ _ _ _ _ _ _ e9) rfl rfl (Nat.le_of_ble_eq_true rfl) (by decide +kernel) (fun r17 hm z18 => ?_)
          refine q_iconst C (n := (-1)) (v := (-1)) (by decide) (by decide +kernel) ?_
          refine q_ixor C (by decide +kernel) ?_
          refine q_iand C (by decide +kernel) ?_
          refine q_putf C fl_1_87 hm rfl rfl (by decide +kernel) (fun h19 hm => ?_)
          refine q_loc [1, 2, 3, 4] rfl ?_
          exact v_X1_heaveOn_89 C Rm K ih _ _ _ _ _ hm
def m_X1_heaveOn (h : q_H) (a0 : Nat) (a1 : Nat) (a2 : Int32) : Option q_H :=
  m_X1_heaveOn_2 q_fu h a0 a1 a2 ((0 : Int32))
set_option maxRecDepth 20000 in
set_option maxHeartbeats 1000000 in
theorem c_X1_heaveOn (l : Launch) (base : Nat) (D : va_G) (tc : Nat → ClassId) (sz : Nat) (h : q_H) (a0 : Nat) (a1 : Nat) (a2 : Int32) {h' : q_H} (hm : m_X1_heaveOn h a0 a1 a2 = some h') : q_M l yX1_heaveOn cX1_heaveOn 5 none 4 107 0 0 base D tc [.ref a0, .ref a1, .int a2] sz h none sz h' := by
  refine q_startv (by decide) (Nat.le_of_ble_eq_true rfl) (fun Γ B K => ?_)
  obtain ⟨C, Rm, -⟩ := B
  have C : q_C Γ cX1_heaveOn RX1 := C
  show q_V Γ sz 0 0 h [(0, .ref a0), (1, .ref a1), (2, .int a2)] [] 0
  unfold m_X1_heaveOn at hm
  refine q_iconst C (n := 0) (v := 0) (by decide) (by decide +kernel) ?_
  refine q_istore_n C Rm.1 (k4 := 3) (i := 3) rfl (lv' := [(3, .int ((0 : Int32))), (0, .ref a0), (1, .ref a1), (2, .int a2)]) rfl (by decide) (by decide +kernel) ?_
  refine q_loc [1, 2, 3, 0] rfl ?_
  exact v_X1_heaveOn_2 C Rm K _ _ _ _ _ _ hm
def m_X2_clear (h : q_H) (a0 : Nat) : Option q_H :=
  (q_pf h a0 2 2 (.int ((0 : Int32)))).bind fun h1 =>
  some h1
set_option maxRecDepth 20000 in
set_option maxHeartbeats 1000000 in
theorem c_X2_clear (l : Launch) (base : Nat) (D : va_G) (tc : Nat → ClassId) (sz : Nat) (h : q_H) (a0 : Nat) {h' : q_H} (hm : m_X2_clear h a0 = some h') : q_M l yX2_clear cX2_clear 1 none 0 0 0 0 base D tc [.ref a0] sz h none sz h' := by
  refine q_startv (by decide) (Nat.le_of_ble_eq_true rfl) (fun Γ B K => ?_)
  obtain ⟨C, Rm, -⟩ := B
  have C : q_C Γ cX2_clear RX2 := C
  show q_V Γ sz 0 0 h [(0, .ref a0)] [] 0
  unfold m_X2_clear at hm
  refine q_aload_n C (k4 := 0) 0 rfl (by decide +kernel) ?_
  refine q_iconst C (n := 0) (v := 0) (by decide) (by decide +kernel) ?_
  refine q_putf C fl_2_16 hm rfl rfl (by decide +kernel) (fun h1 hm => ?_)
  exact q_rvS hm K (by decide +kernel)
def m_X2_keep (h : q_H) (a0 : Nat) (a1 : Nat) : Option q_H :=
  (q_gn h a0 2 0).bind fun v1 =>
  (q_gi h a0 2 1).bind fun v2 =>
  ((q_ar h v1 6 v2).bind fun o => o).bind fun v3 =>
  (q_ca 10 h v3 (m_X10_copyFrom h v3 a1)).bind fun h5 =>
  (q_gi h5 a0 2 1).bind fun v6 =>
  (q_pf h5 a0 2 1 (.int ((q_rmi ((v6 + (1 : Int32))) ((20 : Int32)))))).bind fun h7 =>
  (q_gi h7 a0 2 2).bind fun v8 =>
  (q_pf h7 a0 2 2 (.int ((if (v8 + (1 : Int32)) < (20 : Int32) then (v8 + (1 : Int32)) else (20 : Int32))))).bind fun h9 =>
  some h9
set_option maxRecDepth 20000 in
set_option maxHeartbeats 1000000 in
theorem c_X2_keep (l : Launch) (base : Nat) (D : va_G) (tc : Nat → ClassId) (sz : Nat) (h : q_H) (a0 : Nat) (a1 : Nat) {h' : q_H} (hm : m_X2_keep h a0 a1 = some h') : q_M l yX2_keep cX2_keep 2 none 4 101 0 0 base D tc [.ref a0, .ref a1] sz h none sz h' := by
  refine q_startv (by decide) (Nat.le_of_ble_eq_true rfl) (fun Γ B K => ?_)
  obtain ⟨C, Rm, -⟩ := B
  have C : q_C Γ cX2_keep RX2 := C
  show q_V Γ sz 0 0 h [(0, .ref a0), (1, .ref a1)] [] 0
  unfold m_X2_keep at hm
  refine q_aload_n C (k4 := 0) 0 rfl (by decide +kernel) ?_
  refine q_getn C fl_2_11 hm (by decide +kernel) (fun v1 hm => ?_)
  refine q_aload_n C (k4 := 0) 0 rfl (by decide +kernel) ?_
  refine q_geti C fl_2_20 hm (by decide +kernel) (fun v2 hm => ?_)
  refine q_rrn C (ty := (.object "TugRope$Tug")) (fun _ => rfl) rfl hm (by decide +kernel) (fun v3 hm => ?_)
  refine q_aload_n C (k4 := 1) 1 rfl (by decide +kernel) ?_
  refine q_vvS C Rm (As := [.ref a1]) (rest := []) Y_X10_copyFrom Yv_X10_copyFrom ml_X2_23 (by decide) (by decide) hm (fun h5 e9 => c_X10_copyFrom _ _ _ _ _ _ _ _ e9) rfl rfl (Nat.le_of_ble_eq_true rfl) (by decide +kernel) (fun h5 hm => ?_)
  refine q_aload_n C (k4 := 0) 0 rfl (by decide +kernel) ?_
  refine q_aload_n C (k4 := 0) 0 rfl (by decide +kernel) ?_
  refine q_geti C fl_2_20 hm (by decide +kernel) (fun v6 hm => ?_)
  refine q_iconst C (n := 1) (v := 1) (by decide) (by decide +kernel) ?_
  refine q_iadd C (by decide +kernel) ?_
  refine q_bipush C (n := 20) (v := 20) (by decide) (by decide +kernel) ?_
  refine q_irem C (by decide) (by decide +kernel) ?_
  refine q_putf C fl_2_20 hm rfl rfl (by decide +kernel) (fun h7 hm => ?_)
  refine q_aload_n C (k4 := 0) 0 rfl (by decide +kernel) ?_
  refine q_bipush C (n := 20) (v := 20) (by decide) (by decide +kernel) ?_
  refine q_aload_n C (k4 := 0) 0 rfl (by decide +kernel) ?_
  refine q_geti C fl_2_16 hm (by decide +kernel) (fun v8 hm => ?_)
  refine q_iconst C (n := 1) (v := 1) (by decide) (by decide +kernel) ?_
  refine q_iadd C (by decide +kernel) ?_
  refine q_mmin C Rm ml_X2_27 (by decide) (Nat.le_of_ble_eq_true rfl) ⟨Nat.le_refl _, Nat.le_refl _⟩ (by decide +kernel) ?_
  refine q_putf C fl_2_16 hm rfl rfl (by decide +kernel) (fun h9 hm => ?_)
  exact q_rvS hm K (by decide +kernel)
def m_X2_giveBack (h : q_H) (a0 : Nat) (a1 : Nat) : Option q_H :=
  (q_gi h a0 2 1).bind fun v1 =>
  (q_pf h a0 2 1 (.int ((q_rmi (((v1 + (20 : Int32)) - (1 : Int32))) ((20 : Int32)))))).bind fun h2 =>
  (q_gn h2 a0 2 0).bind fun v3 =>
  (q_gi h2 a0 2 1).bind fun v4 =>
  ((q_ar h2 v3 6 v4).bind fun o => o).bind fun v5 =>
  (q_ca 10 h2 a1 (m_X10_copyFrom h2 a1 v5)).bind fun h7 =>
  (q_gi h7 a0 2 2).bind fun v8 =>
  (q_pf h7 a0 2 2 (.int ((v8 - (1 : Int32))))).bind fun h9 =>
  some h9
set_option maxRecDepth 20000 in
set_option maxHeartbeats 1000000 in
theorem c_X2_giveBack (l : Launch) (base : Nat) (D : va_G) (tc : Nat → ClassId) (sz : Nat) (h : q_H) (a0 : Nat) (a1 : Nat) {h' : q_H} (hm : m_X2_giveBack h a0 a1 = some h') : q_M l yX2_giveBack cX2_giveBack 2 none 4 101 0 0 base D tc [.ref a0, .ref a1] sz h none sz h' := by
  refine q_startv (by decide) (Nat.le_of_ble_eq_true rfl) (fun Γ B K => ?_)
  obtain ⟨C, Rm, -⟩ := B
  have C : q_C Γ cX2_giveBack RX2 := C
  show q_V Γ sz 0 0 h [(0, .ref a0), (1, .ref a1)] [] 0
  unfold m_X2_giveBack at hm
  refine q_aload_n C (k4 := 0) 0 rfl (by decide +kernel) ?_
  refine q_aload_n C (k4 := 0) 0 rfl (by decide +kernel) ?_
  refine q_geti C fl_2_20 hm (by decide +kernel) (fun v1 hm => ?_)
  refine q_bipush C (n := 20) (v := 20) (by decide) (by decide +kernel) ?_
  refine q_iadd C (by decide +kernel) ?_
  refine q_iconst C (n := 1) (v := 1) (by decide) (by decide +kernel) ?_
  refine q_isub C (by decide +kernel) ?_
  refine q_bipush C (n := 20) (v := 20) (by decide) (by decide +kernel) ?_
  refine q_irem C (by decide) (by decide +kernel) ?_
  refine q_putf C fl_2_20 hm rfl rfl (by decide +kernel) (fun h2 hm => ?_)
  refine q_aload_n C (k4 := 1) 1 rfl (by decide +kernel) ?_
  refine q_aload_n C (k4 := 0) 0 rfl (by decide +kernel) ?_
  refine q_getn C fl_2_11 hm (by decide +kernel) (fun v3 hm => ?_)
  refine q_aload_n C (k4 := 0) 0 rfl (by decide +kernel) ?_
  refine q_geti C fl_2_20 hm (by decide +kernel) (fun v4 hm => ?_)
  refine q_rrn C (ty := (.object "TugRope$Tug")) (fun _ => rfl) rfl hm (by decide +kernel) (fun v5 hm => ?_)
  refine q_vvS C Rm (As := [.ref v5]) (rest := []) Y_X10_copyFrom Yv_X10_copyFrom ml_X2_23 (by decide) (by decide) hm (fun h7 e9 => c_X10_copyFrom _ _ _ _ _ _ _ _ e9) rfl rfl (Nat.le_of_ble_eq_true rfl) (by decide +kernel) (fun h7 hm => ?_)
  refine q_aload_n C (k4 := 0) 0 rfl (by decide +kernel) ?_
  refine q_dup C rfl (by decide +kernel) ?_
  refine q_geti C fl_2_16 hm (by decide +kernel) (fun v8 hm => ?_)
  refine q_iconst C (n := 1) (v := 1) (by decide) (by decide +kernel) ?_
  refine q_isub C (by decide +kernel) ?_
  refine q_putf C fl_2_16 hm rfl rfl (by decide +kernel) (fun h9 hm => ?_)
  exact q_rvS hm K (by decide +kernel)
def m_X9_byteAt (h0 : q_H) (a0 : Nat) (a1 : Int32) : Option Int32 :=
  if a1 < 0 then
    some ((-1 : Int32))
  else
    (q_gi h0 a0 9 1).bind fun v1 =>
    if a1 < v1 then
      (q_gn h0 a0 9 0).bind fun v2 =>
      (q_ai h0 v2 0 a1).bind fun v3 =>
      some ((v3 &&& (255 : Int32)))
    else
      some ((-1 : Int32))
set_option maxRecDepth 20000 in
set_option maxHeartbeats 1000000 in
theorem c_X9_byteAt (l : Launch) (base : Nat) (D : va_G) (tc : Nat → ClassId) (sz : Nat) (h0 : q_H) (a0 : Nat) (a1 : Int32) {r : Int32} (hm : m_X9_byteAt h0 a0 a1 = some r) : q_M l yX9_byteAt cX9_byteAt 2 (some .int) 0 0 0 0 base D tc [.ref a0, .int a1] sz h0 (some (.int r)) sz h0 := by
  refine q_starti (by decide) (Nat.le_of_ble_eq_true rfl) (fun Γ B K => ?_)
  obtain ⟨C, Rm, -⟩ := B
  have C : q_C Γ cX9_byteAt RX9 := C
  show q_V Γ sz 0 0 h0 [(0, .ref a0), (1, .int a1)] [] 0
  unfold m_X9_byteAt at hm
  refine q_iload_n C (k4 := 1) 1 rfl (by decide +kernel) ?_
  refine q_if_lt C (off := 11) 12 hm (by decide +kernel) (by decide) (fun _ hm => ?_) (fun _ hm => ?_)
  · refine q_iconst C (n := (-1)) (v := (-1)) (by decide) (by decide +kernel) ?_
    refine q_goto C (off := 13) 26 (by decide +kernel) (by decide) ?_
    exact q_riP hm K rfl (by decide +kernel)
  · refine q_iload_n C (k4 := 1) 1 rfl (by decide +kernel) ?_
    refine q_aload_n C (k4 := 0) 0 rfl (by decide +kernel) ?_
    refine q_geti C fl_9_13 hm (by decide +kernel) (fun v1 hm => ?_)
    refine q_icmp_lt C (off := 7) 16 hm (by decide +kernel) (by decide) (fun _ hm => ?_) (fun _ hm => ?_)
    · refine q_aload_n C (k4 := 0) 0 rfl (by decide +kernel) ?_
      refine q_getn C fl_9_9 hm (by decide +kernel) (fun v2 hm => ?_)
      refine q_iload_n C (k4 := 1) 1 rfl (by decide +kernel) ?_
      refine q_br C hm (by decide +kernel) (fun v3 hm => ?_)
      refine q_sipush C (n := 255) (v := 255) (by decide) (by decide +kernel) ?_
      refine q_iand C (by decide +kernel) ?_
      exact q_riP hm K rfl (by decide +kernel)
    · refine q_iconst C (n := (-1)) (v := (-1)) (by decide) (by decide +kernel) ?_
      refine q_goto C (off := 13) 26 (by decide +kernel) (by decide) ?_
      exact q_riP hm K rfl (by decide +kernel)
def m_X3_behind_3  : Nat → q_H → Nat → Int32 → Int32 → Int32 → Option Int32
  | 0, _, _, _, _, _ => none
  | n + 1, h0, x0, x2, x3, x4 =>
    (q_gn h0 x0 3 0).bind fun v1 =>
    (q_gi h0 v1 9 1).bind fun v2 =>
    if v2 ≤ x4 then
      some x4
    else
      (q_gn h0 x0 3 0).bind fun v3 =>
      (q_ca 9 h0 v3 (m_X9_byteAt h0 v3 x4)).bind fun r4 =>
      if r4 < x2 then
        some x4
      else
        if r4 ≤ x3 then
          m_X3_behind_3 n h0 x0 x2 x3 ((x4 + (1 : Int32)))
        else
          some x4
set_option maxRecDepth 20000 in
set_option maxHeartbeats 1000000 in
theorem v_X3_behind_3 {Γ : q_G} {sz : Nat} {h0 : q_H} {r : Int32} (C : q_C Γ cX3_behind RX3) (Rm : q_Rm Γ 6 1 21 0 0)  (K : narrow .int (.int r) = .int r → q_K Γ cX3_behind .ireturn sz h0 0 0 [.int r])  : ∀ (n : Nat) (x0 : Nat) (x2 : Int32) (x3 : Int32) (x4 : Int32), m_X3_behind_3 n h0 x0 x2 x3 x4 = some r → q_V Γ sz 0 0 h0 [(0, .ref x0), (2, .int x2), (3, .int x3), (4, .int x4)] [] 3 := by
  intro n
  induction n with
  | zero => intro x0 x2 x3 x4 hm; cases hm
  | succ n ih =>
    intro x0 x2 x3 x4 hm
    unfold m_X3_behind_3 at hm
    refine q_iload C (i := 4) 3 rfl (by decide +kernel) ?_
    refine q_aload_n C (k4 := 0) 0 rfl (by decide +kernel) ?_
    refine q_getn C fl_3_11 hm (by decide +kernel) (fun v1 hm => ?_)
    refine q_geti C fl_3_31 hm (by decide +kernel) (fun v2 hm => ?_)
    refine q_icmp_ge C (off := 35) 47 hm (by decide +kernel) (by decide) (fun _ hm => ?_) (fun _ hm => ?_)
    · refine q_iload C (i := 4) 3 rfl (by decide +kernel) ?_
      exact q_riP hm K rfl (by decide +kernel)
    · refine q_aload_n C (k4 := 0) 0 rfl (by decide +kernel) ?_
      refine q_getn C fl_3_11 hm (by decide +kernel) (fun v3 hm => ?_)
      refine q_iload C (i := 4) 3 rfl (by decide +kernel) ?_
      refine q_viP C Rm (As := [.int x4]) (rest := []) Y_X9_byteAt Yv_X9_byteAt ml_X3_34 (by decide) (by decide) hm (fun r9 e9 => c_X9_byteAt _ _ _ _ _ _ _ _ e9) rfl rfl (Nat.le_of_ble_eq_true rfl) (by decide +kernel) (fun r4 hm z5 => ?_)
      refine q_istore C Rm.1 (i := 5) (lv' := [(5, .int r4), (0, .ref x0), (2, .int x2), (3, .int x3), (4, .int x4)]) rfl (by decide) (by decide +kernel) ?_
      refine q_iload C (i := 5) 0 rfl (by decide +kernel) ?_
      refine q_iload_n C (k4 := 2) 2 rfl (by decide +kernel) ?_
      refine q_icmp_lt C (off := 18) 47 hm (by decide +kernel) (by decide) (fun _ hm => ?_) (fun _ hm => ?_)
      · refine q_iload C (i := 4) 4 rfl (by decide +kernel) ?_
        exact q_riP hm K rfl (by decide +kernel)
      · refine q_iload C (i := 5) 0 rfl (by decide +kernel) ?_
        refine q_iload_n C (k4 := 3) 3 rfl (by decide +kernel) ?_
        refine q_icmp_le C (off := 6) 41 hm (by decide +kernel) (by decide) (fun _ hm => ?_) (fun _ hm => ?_)
        · refine q_iinc C Rm.1 (i := 4) (n := 1) (v := (x4 + (1 : Int32))) 4 rfl (q_inc _ (by decide)) (lv' := [(4, .int ((x4 + (1 : Int32)))), (5, .int r4), (0, .ref x0), (2, .int x2), (3, .int x3)]) rfl (by decide) (by decide +kernel) ?_
          refine q_goto C (off := -41) 3 (by decide +kernel) (by decide) ?_
          refine q_loc [2, 3, 4, 0] rfl ?_
          exact ih _ _ _ _ hm
        · refine q_goto C (off := 9) 47 (by decide +kernel) (by decide) ?_
          refine q_iload C (i := 4) 4 rfl (by decide +kernel) ?_
          exact q_riP hm K rfl (by decide +kernel)
def m_X3_behind (h0 : q_H) (a0 : Nat) (a1 : Int32) (a2 : Int32) (a3 : Int32) : Option Int32 :=
  m_X3_behind_3 q_fu h0 a0 a2 a3 a1
set_option maxRecDepth 20000 in
set_option maxHeartbeats 1000000 in
theorem c_X3_behind (l : Launch) (base : Nat) (D : va_G) (tc : Nat → ClassId) (sz : Nat) (h0 : q_H) (a0 : Nat) (a1 : Int32) (a2 : Int32) (a3 : Int32) {r : Int32} (hm : m_X3_behind h0 a0 a1 a2 a3 = some r) : q_M l yX3_behind cX3_behind 6 (some .int) 1 21 0 0 base D tc [.ref a0, .int a1, .int a2, .int a3] sz h0 (some (.int r)) sz h0 := by
  refine q_starti (by decide) (Nat.le_of_ble_eq_true rfl) (fun Γ B K => ?_)
  obtain ⟨C, Rm, -⟩ := B
  have C : q_C Γ cX3_behind RX3 := C
  show q_V Γ sz 0 0 h0 [(0, .ref a0), (1, .int a1), (2, .int a2), (3, .int a3)] [] 0
  unfold m_X3_behind at hm
  refine q_iload_n C (k4 := 1) 1 rfl (by decide +kernel) ?_
  refine q_istore C Rm.1 (i := 4) (lv' := [(4, .int a1), (0, .ref a0), (1, .int a1), (2, .int a2), (3, .int a3)]) rfl (by decide) (by decide +kernel) ?_
  refine q_loc [1, 3, 4, 0] rfl ?_
  exact v_X3_behind_3 C Rm K _ _ _ _ _ hm
