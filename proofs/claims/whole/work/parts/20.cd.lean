def m_X9_hasRoomFor (h0 : q_H) (a0 : Nat) (a1 : Int32) : Option Int32 :=
  (q_gi h0 a0 9 1).bind fun v1 =>
  if (400 : Int32) < (v1 + a1) then
    some ((0 : Int32))
  else
    some ((1 : Int32))
set_option maxRecDepth 20000 in
set_option maxHeartbeats 1000000 in
theorem c_X9_hasRoomFor (l : Launch) (base : Nat) (D : va_G) (tc : Nat → ClassId) (sz : Nat) (h0 : q_H) (a0 : Nat) (a1 : Int32) {r : Int32} (hm : m_X9_hasRoomFor h0 a0 a1 = some r) : q_M l yX9_hasRoomFor cX9_hasRoomFor 2 (some .boolean) 0 0 0 0 base D tc [.ref a0, .int a1] sz h0 (some (.int r)) sz h0 := by
  refine q_starti (by decide) (Nat.le_of_ble_eq_true rfl) (fun Γ B K => ?_)
  obtain ⟨C, Rm, -⟩ := B
  have C : q_C Γ cX9_hasRoomFor RX9 := C
  show q_V Γ sz 0 0 h0 [(0, .ref a0), (1, .int a1)] [] 0
  unfold m_X9_hasRoomFor at hm
  refine q_aload_n C (k4 := 0) 0 rfl (by decide +kernel) ?_
  refine q_geti C fl_9_13 hm (by decide +kernel) (fun v1 hm => ?_)
  refine q_iload_n C (k4 := 1) 1 rfl (by decide +kernel) ?_
  refine q_iadd C (by decide +kernel) ?_
  refine q_sipush C (n := 400) (v := 400) (by decide) (by decide +kernel) ?_
  refine q_icmp_gt C (off := 7) 16 hm (by decide +kernel) (by decide) (fun _ hm => ?_) (fun _ hm => ?_)
  · refine q_iconst C (n := 0) (v := 0) (by decide) (by decide +kernel) ?_
    exact q_riP hm K q_z0 (by decide +kernel)
  · refine q_iconst C (n := 1) (v := 1) (by decide) (by decide +kernel) ?_
    refine q_goto C (off := 4) 17 (by decide +kernel) (by decide) ?_
    exact q_riP hm K q_z1 (by decide +kernel)
def m_X9_append_3  : Nat → q_H → Nat → Int32 → Int32 → Option q_H
  | 0, _, _, _, _ => none
  | n + 1, h, x0, x1, x2 =>
    if x2 < 0 then
      some h
    else
      (q_gi h x0 9 1).bind fun v1 =>
      if (400 : Int32) ≤ v1 then
        some h
      else
        (q_gn h x0 9 0).bind fun v2 =>
        (q_gi h x0 9 1).bind fun v3 =>
        (q_si h v2 0 v3 (vp_nar .byte (((x1 >>> (x2 &&& 31))).toInt8.toInt32))).bind fun h4 =>
        (q_gi h4 x0 9 1).bind fun v5 =>
        (q_pf h4 x0 9 1 (.int ((v5 + (1 : Int32))))).bind fun h6 =>
        m_X9_append_3 n h6 x0 x1 ((x2 + (-8 : Int32)))
set_option maxRecDepth 20000 in
set_option maxHeartbeats 1000000 in
theorem v_X9_append_3 {Γ : q_G} {sz : Nat} {h' : q_H} (C : q_C Γ cX9_append RX9) (Rm : q_Rm Γ 3 0 0 0 0)  (K : q_K Γ cX9_append .return_ sz h' 0 0 [])  : ∀ (n : Nat) (h : q_H) (x0 : Nat) (x1 : Int32) (x2 : Int32), m_X9_append_3 n h x0 x1 x2 = some h' → q_V Γ sz 0 0 h [(0, .ref x0), (1, .int x1), (2, .int x2)] [] 3 := by
  intro n
  induction n with
  | zero => intro h x0 x1 x2 hm; cases hm
  | succ n ih =>
    intro h x0 x1 x2 hm
    unfold m_X9_append_3 at hm
    refine q_iload_n C (k4 := 2) 2 rfl (by decide +kernel) ?_
    refine q_if_lt C (off := 42) 46 hm (by decide +kernel) (by decide) (fun _ hm => ?_) (fun _ hm => ?_)
    · exact q_rvS hm K (by decide +kernel)
    · refine q_aload_n C (k4 := 0) 0 rfl (by decide +kernel) ?_
      refine q_geti C fl_9_13 hm (by decide +kernel) (fun v1 hm => ?_)
      refine q_sipush C (n := 400) (v := 400) (by decide) (by decide +kernel) ?_
      refine q_icmp_ge C (off := 32) 46 hm (by decide +kernel) (by decide) (fun _ hm => ?_) (fun _ hm => ?_)
      · exact q_rvS hm K (by decide +kernel)
      · refine q_aload_n C (k4 := 0) 0 rfl (by decide +kernel) ?_
        refine q_getn C fl_9_9 hm (by decide +kernel) (fun v2 hm => ?_)
        refine q_aload_n C (k4 := 0) 0 rfl (by decide +kernel) ?_
        refine q_geti C fl_9_13 hm (by decide +kernel) (fun v3 hm => ?_)
        refine q_iload_n C (k4 := 1) 1 rfl (by decide +kernel) ?_
        refine q_iload_n C (k4 := 2) 2 rfl (by decide +kernel) ?_
        refine q_ishr C (by decide +kernel) ?_
        refine q_i2b C (by decide +kernel) ?_
        refine q_bw C hm (by decide +kernel) (fun h4 hm => ?_)
        refine q_aload_n C (k4 := 0) 0 rfl (by decide +kernel) ?_
        refine q_dup C rfl (by decide +kernel) ?_
        refine q_geti C fl_9_13 hm (by decide +kernel) (fun v5 hm => ?_)
        refine q_iconst C (n := 1) (v := 1) (by decide) (by decide +kernel) ?_
        refine q_iadd C (by decide +kernel) ?_
        refine q_putf C fl_9_13 hm rfl rfl (by decide +kernel) (fun h6 hm => ?_)
        refine q_iinc C Rm.1 (i := 2) (n := (-8)) (v := (x2 + (-8 : Int32))) 2 rfl (q_inc _ (by decide)) (lv' := [(2, .int ((x2 + (-8 : Int32)))), (0, .ref x0), (1, .int x1)]) rfl (by decide) (by decide +kernel) ?_
        refine q_goto C (off := -40) 3 (by decide +kernel) (by decide) ?_
        refine q_loc [1, 2, 0] rfl ?_
        exact ih _ _ _ _ hm
def m_X9_append (h : q_H) (a0 : Nat) (a1 : Int32) : Option q_H :=
  m_X9_append_3 q_fu h a0 a1 ((24 : Int32))
set_option maxRecDepth 20000 in
set_option maxHeartbeats 1000000 in
theorem c_X9_append (l : Launch) (base : Nat) (D : va_G) (tc : Nat → ClassId) (sz : Nat) (h : q_H) (a0 : Nat) (a1 : Int32) {h' : q_H} (hm : m_X9_append h a0 a1 = some h') : q_M l yX9_append cX9_append 3 none 0 0 0 0 base D tc [.ref a0, .int a1] sz h none sz h' := by
  refine q_startv (by decide) (Nat.le_of_ble_eq_true rfl) (fun Γ B K => ?_)
  obtain ⟨C, Rm, -⟩ := B
  have C : q_C Γ cX9_append RX9 := C
  show q_V Γ sz 0 0 h [(0, .ref a0), (1, .int a1)] [] 0
  unfold m_X9_append at hm
  refine q_bipush C (n := 24) (v := 24) (by decide) (by decide +kernel) ?_
  refine q_istore_n C Rm.1 (k4 := 2) (i := 2) rfl (lv' := [(2, .int ((24 : Int32))), (0, .ref a0), (1, .int a1)]) rfl (by decide) (by decide +kernel) ?_
  refine q_loc [1, 2, 0] rfl ?_
  exact v_X9_append_3 C Rm K _ _ _ _ _ hm
def m_X10_workedTogether_4  : Nat → q_H → Nat → Int32 → Int32 → Int32 → Option Int32
  | 0, _, _, _, _, _ => none
  | n + 1, h0, x0, x1, x2, x3 =>
    if x1 ≤ x3 then
      some x2
    else
      (q_gn h0 x0 10 6).bind fun v1 =>
      (q_ai h0 v1 1 x3).bind fun v2 =>
      m_X10_workedTogether_4 n h0 x0 x1 ((x2 + v2)) ((x3 + (1 : Int32)))
set_option maxRecDepth 20000 in
set_option maxHeartbeats 1000000 in
theorem v_X10_workedTogether_4 {Γ : q_G} {sz : Nat} {h0 : q_H} {r : Int32} (C : q_C Γ cX10_workedTogether RX10) (Rm : q_Rm Γ 4 0 0 0 0)  (K : narrow .int (.int r) = .int r → q_K Γ cX10_workedTogether .ireturn sz h0 0 0 [.int r])  : ∀ (n : Nat) (x0 : Nat) (x1 : Int32) (x2 : Int32) (x3 : Int32), m_X10_workedTogether_4 n h0 x0 x1 x2 x3 = some r → q_V Γ sz 0 0 h0 [(0, .ref x0), (1, .int x1), (2, .int x2), (3, .int x3)] [] 4 := by
  intro n
  induction n with
  | zero => intro x0 x1 x2 x3 hm; cases hm
  | succ n ih =>
    intro x0 x1 x2 x3 hm
    unfold m_X10_workedTogether_4 at hm
    refine q_iload_n C (k4 := 3) 3 rfl (by decide +kernel) ?_
    refine q_iload_n C (k4 := 1) 1 rfl (by decide +kernel) ?_
    refine q_icmp_ge C (off := 18) 24 hm (by decide +kernel) (by decide) (fun _ hm => ?_) (fun _ hm => ?_)
    · refine q_iload_n C (k4 := 2) 2 rfl (by decide +kernel) ?_
      exact q_riP hm K rfl (by decide +kernel)
    · refine q_iload_n C (k4 := 2) 2 rfl (by decide +kernel) ?_
      refine q_aload_n C (k4 := 0) 0 rfl (by decide +kernel) ?_
      refine q_getn C fl_10_21 hm (by decide +kernel) (fun v1 hm => ?_)
      refine q_iload_n C (k4 := 3) 3 rfl (by decide +kernel) ?_
      refine q_ir C hm (by decide +kernel) (fun v2 hm => ?_)
      refine q_iadd C (by decide +kernel) ?_
      refine q_istore_n C Rm.1 (k4 := 2) (i := 2) rfl (lv' := [(2, .int ((x2 + v2))), (0, .ref x0), (1, .int x1), (3, .int x3)]) rfl (by decide) (by decide +kernel) ?_
      refine q_iinc C Rm.1 (i := 3) (n := 1) (v := (x3 + (1 : Int32))) 3 rfl (q_inc _ (by decide)) (lv' := [(3, .int ((x3 + (1 : Int32)))), (2, .int ((x2 + v2))), (0, .ref x0), (1, .int x1)]) rfl (by decide) (by decide +kernel) ?_
      refine q_goto C (off := -17) 4 (by decide +kernel) (by decide) ?_
      refine q_loc [2, 3, 1, 0] rfl ?_
      exact ih _ _ _ _ hm
def m_X10_workedTogether (h0 : q_H) (a0 : Nat) (a1 : Int32) : Option Int32 :=
  m_X10_workedTogether_4 q_fu h0 a0 a1 ((0 : Int32)) ((0 : Int32))
set_option maxRecDepth 20000 in
set_option maxHeartbeats 1000000 in
theorem c_X10_workedTogether (l : Launch) (base : Nat) (D : va_G) (tc : Nat → ClassId) (sz : Nat) (h0 : q_H) (a0 : Nat) (a1 : Int32) {r : Int32} (hm : m_X10_workedTogether h0 a0 a1 = some r) : q_M l yX10_workedTogether cX10_workedTogether 4 (some .int) 0 0 0 0 base D tc [.ref a0, .int a1] sz h0 (some (.int r)) sz h0 := by
  refine q_starti (by decide) (Nat.le_of_ble_eq_true rfl) (fun Γ B K => ?_)
  obtain ⟨C, Rm, -⟩ := B
  have C : q_C Γ cX10_workedTogether RX10 := C
  show q_V Γ sz 0 0 h0 [(0, .ref a0), (1, .int a1)] [] 0
  unfold m_X10_workedTogether at hm
  refine q_iconst C (n := 0) (v := 0) (by decide) (by decide +kernel) ?_
  refine q_istore_n C Rm.1 (k4 := 2) (i := 2) rfl (lv' := [(2, .int ((0 : Int32))), (0, .ref a0), (1, .int a1)]) rfl (by decide) (by decide +kernel) ?_
  refine q_iconst C (n := 0) (v := 0) (by decide) (by decide +kernel) ?_
  refine q_istore_n C Rm.1 (k4 := 3) (i := 3) rfl (lv' := [(3, .int ((0 : Int32))), (2, .int ((0 : Int32))), (0, .ref a0), (1, .int a1)]) rfl (by decide) (by decide +kernel) ?_
  refine q_loc [2, 3, 1, 0] rfl ?_
  exact v_X10_workedTogether_4 C Rm K _ _ _ _ _ hm
def m_X10_crossOver_63 (k13 : q_H → Nat → Int32 → Int32 → Int32 → Int32 → Int32 → Option q_H) (h : q_H) (x0 : Nat) (x1 : Int32) (x2 : Int32) (x3 : Int32) (x4 : Int32) (x5 : Int32) : Option q_H :=
  k13 h x0 x1 x2 x3 x4 ((x5 + (1 : Int32)))
set_option maxRecDepth 20000 in
set_option maxHeartbeats 1000000 in
theorem v_X10_crossOver_63 {Γ : q_G} {sz : Nat} {h' : q_H} (C : q_C Γ cX10_crossOver RX10) (Rm : q_Rm Γ 6 0 0 0 0) {k13 : q_H → Nat → Int32 → Int32 → Int32 → Int32 → Int32 → Option q_H} (K : q_K Γ cX10_crossOver .return_ sz h' 0 0 []) (hk13 : ∀ (h : q_H) (x0 : Nat) (x1 : Int32) (x2 : Int32) (x3 : Int32) (x4 : Int32) (x5 : Int32), k13 h x0 x1 x2 x3 x4 x5 = some h' → q_V Γ sz 0 0 h [(0, .ref x0), (1, .int x1), (2, .int x2), (3, .int x3), (4, .int x4), (5, .int x5)] [] 13) : ∀ (h : q_H) (x0 : Nat) (x1 : Int32) (x2 : Int32) (x3 : Int32) (x4 : Int32) (x5 : Int32), m_X10_crossOver_63 k13 h x0 x1 x2 x3 x4 x5 = some h' → q_V Γ sz 0 0 h [(0, .ref x0), (1, .int x1), (2, .int x2), (3, .int x3), (4, .int x4), (5, .int x5)] [] 63 := by
  intro h x0 x1 x2 x3 x4 x5 hm
  unfold m_X10_crossOver_63 at hm
  refine q_iinc C Rm.1 (i := 5) (n := 1) (v := (x5 + (1 : Int32))) 5 rfl (q_inc _ (by decide)) (lv' := [(5, .int ((x5 + (1 : Int32)))), (0, .ref x0), (1, .int x1), (2, .int x2), (3, .int x3), (4, .int x4)]) rfl (by decide) (by decide +kernel) ?_
  refine q_goto C (off := -53) 13 (by decide +kernel) (by decide) ?_
  refine q_loc [1, 2, 3, 4, 5, 0] rfl ?_
  exact hk13 _ _ _ _ _ _ _ hm
def m_X10_crossOver_13  : Nat → q_H → Nat → Int32 → Int32 → Int32 → Int32 → Int32 → Option q_H
  | 0, _, _, _, _, _, _, _ => none
  | n + 1, h, x0, x1, x2, x3, x4, x5 =>
    if x2 ≤ x5 then
      (q_gn h x0 10 3).bind fun v3 =>
      (q_si h v3 1 x1 (((1 : Int32) - x3))).bind fun h4 =>
      (q_gn h4 x0 10 4).bind fun v5 =>
      (q_si h4 v5 1 x1 x4).bind fun h6 =>
      some h6
    else
      (q_gn h x0 10 3).bind fun v7 =>
      (q_ai h v7 1 x5).bind fun v8 =>
      if v8 = x3 then
        (q_gn h x0 10 4).bind fun v9 =>
        (q_ai h v9 1 x5).bind fun v10 =>
        (q_gn h x0 10 4).bind fun v11 =>
        (q_ai h v11 1 x1).bind fun v12 =>
        if v10 ≤ v12 then
          m_X10_crossOver_63 (m_X10_crossOver_13 n) h x0 x1 x2 x3 x4 x5
        else
          (q_gn h x0 10 4).bind fun v13 =>
          (q_ai h v13 1 x5).bind fun v14 =>
          (q_si h v13 1 x5 ((v14 - (1 : Int32)))).bind fun h15 =>
          m_X10_crossOver_63 (m_X10_crossOver_13 n) h15 x0 x1 x2 x3 x4 x5
      else
        m_X10_crossOver_63 (m_X10_crossOver_13 n) h x0 x1 x2 x3 ((x4 + (1 : Int32))) x5
set_option maxRecDepth 20000 in
set_option maxHeartbeats 1000000 in
theorem v_X10_crossOver_13 {Γ : q_G} {sz : Nat} {h' : q_H} (C : q_C Γ cX10_crossOver RX10) (Rm : q_Rm Γ 6 0 0 0 0)  (K : q_K Γ cX10_crossOver .return_ sz h' 0 0 [])  : ∀ (n : Nat) (h : q_H) (x0 : Nat) (x1 : Int32) (x2 : Int32) (x3 : Int32) (x4 : Int32) (x5 : Int32), m_X10_crossOver_13 n h x0 x1 x2 x3 x4 x5 = some h' → q_V Γ sz 0 0 h [(0, .ref x0), (1, .int x1), (2, .int x2), (3, .int x3), (4, .int x4), (5, .int x5)] [] 13 := by
  intro n
  induction n with
  | zero => intro h x0 x1 x2 x3 x4 x5 hm; cases hm
  | succ n ih =>
    intro h x0 x1 x2 x3 x4 x5 hm
    unfold m_X10_crossOver_13 at hm
    refine q_iload C (i := 5) 5 rfl (by decide +kernel) ?_
    refine q_iload_n C (k4 := 2) 2 rfl (by decide +kernel) ?_
    refine q_icmp_ge C (off := 53) 69 hm (by decide +kernel) (by decide) (fun _ hm => ?_) (fun _ hm => ?_)
    · refine q_aload_n C (k4 := 0) 0 rfl (by decide +kernel) ?_
      refine q_getn C fl_10_9 hm (by decide +kernel) (fun v3 hm => ?_)
      refine q_iload_n C (k4 := 1) 1 rfl (by decide +kernel) ?_
      refine q_iconst C (n := 1) (v := 1) (by decide) (by decide +kernel) ?_
      refine q_iload_n C (k4 := 3) 3 rfl (by decide +kernel) ?_
      refine q_isub C (by decide +kernel) ?_
      refine q_iw C hm (by decide +kernel) (fun h4 hm => ?_)
      refine q_aload_n C (k4 := 0) 0 rfl (by decide +kernel) ?_
      refine q_getn C fl_10_15 hm (by decide +kernel) (fun v5 hm => ?_)
      refine q_iload_n C (k4 := 1) 1 rfl (by decide +kernel) ?_
      refine q_iload C (i := 4) 4 rfl (by decide +kernel) ?_
      refine q_iw C hm (by decide +kernel) (fun h6 hm => ?_)
      exact q_rvS hm K (by decide +kernel)
    · refine q_aload_n C (k4 := 0) 0 rfl (by decide +kernel) ?_
      refine q_getn C fl_10_9 hm (by decide +kernel) (fun v7 hm => ?_)
      refine q_iload C (i := 5) 5 rfl (by decide +kernel) ?_
      refine q_ir C hm (by decide +kernel) (fun v8 hm => ?_)
      refine q_iload_n C (k4 := 3) 3 rfl (by decide +kernel) ?_
      refine q_icmp_eq C (off := 9) 36 hm (by decide +kernel) (by decide) (fun _ hm => ?_) (fun _ hm => ?_)
      · refine q_aload_n C (k4 := 0) 0 rfl (by decide +kernel) ?_
        refine q_getn C fl_10_15 hm (by decide +kernel) (fun v9 hm => ?_)
        refine q_iload C (i := 5) 5 rfl (by decide +kernel) ?_
        refine q_ir C hm (by decide +kernel) (fun v10 hm => ?_)
        refine q_aload_n C (k4 := 0) 0 rfl (by decide +kernel) ?_
        refine q_getn C fl_10_15 hm (by decide +kernel) (fun v11 hm => ?_)
        refine q_iload_n C (k4 := 1) 1 rfl (by decide +kernel) ?_
        refine q_ir C hm (by decide +kernel) (fun v12 hm => ?_)
        refine q_icmp_le C (off := 14) 63 hm (by decide +kernel) (by decide) (fun _ hm => ?_) (fun _ hm => ?_)
        · exact v_X10_crossOver_63 C Rm K ih _ _ _ _ _ _ _ hm
        · refine q_aload_n C (k4 := 0) 0 rfl (by decide +kernel) ?_
          refine q_getn C fl_10_15 hm (by decide +kernel) (fun v13 hm => ?_)
          refine q_iload C (i := 5) 5 rfl (by decide +kernel) ?_
          refine q_dup2 C rfl rfl (by decide +kernel) ?_
          refine q_ir C hm (by decide +kernel) (fun v14 hm => ?_)
          refine q_iconst C (n := 1) (v := 1) (by decide) (by decide +kernel) ?_
          refine q_isub C (by decide +kernel) ?_
          refine q_iw C hm (by decide +kernel) (fun h15 hm => ?_)
          exact v_X10_crossOver_63 C Rm K ih _ _ _ _ _ _ _ hm
      · refine q_iinc C Rm.1 (i := 4) (n := 1) (v := (x4 + (1 : Int32))) 4 rfl (q_inc _ (by decide)) (lv' := [(4, .int ((x4 + (1 : Int32)))), (0, .ref x0), (1, .int x1), (2, .int x2), (3, .int x3), (5, .int x5)]) rfl (by decide) (by decide +kernel) ?_
        refine q_goto C (off := 30) 63 (by decide +kernel) (by decide) ?_
        refine q_loc [1, 2, 3, 4, 0, 5] rfl ?_
        exact v_X10_crossOver_63 C Rm K ih _ _ _ _ _ _ _ hm
def m_X10_crossOver (h : q_H) (a0 : Nat) (a1 : Int32) (a2 : Int32) : Option q_H :=
  (q_gn h a0 10 3).bind fun v1 =>
  (q_ai h v1 1 a1).bind fun v2 =>
  m_X10_crossOver_13 q_fu h a0 a1 a2 v2 ((0 : Int32)) ((0 : Int32))
set_option maxRecDepth 20000 in
set_option maxHeartbeats 1000000 in
theorem c_X10_crossOver (l : Launch) (base : Nat) (D : va_G) (tc : Nat → ClassId) (sz : Nat) (h : q_H) (a0 : Nat) (a1 : Int32) (a2 : Int32) {h' : q_H} (hm : m_X10_crossOver h a0 a1 a2 = some h') : q_M l yX10_crossOver cX10_crossOver 6 none 0 0 0 0 base D tc [.ref a0, .int a1, .int a2] sz h none sz h' := by
  refine q_startv (by decide) (Nat.le_of_ble_eq_true rfl) (fun Γ B K => ?_)
  obtain ⟨C, Rm, -⟩ := B
  have C : q_C Γ cX10_crossOver RX10 := C
  show q_V Γ sz 0 0 h [(0, .ref a0), (1, .int a1), (2, .int a2)] [] 0
  unfold m_X10_crossOver at hm
  refine q_aload_n C (k4 := 0) 0 rfl (by decide +kernel) ?_
  refine q_getn C fl_10_9 hm (by decide +kernel) (fun v1 hm => ?_)
  refine q_iload_n C (k4 := 1) 1 rfl (by decide +kernel) ?_
  refine q_ir C hm (by decide +kernel) (fun v2 hm => ?_)
  refine q_istore_n C Rm.1 (k4 := 3) (i := 3) rfl (lv' := [(3, .int v2), (0, .ref a0), (1, .int a1), (2, .int a2)]) rfl (by decide) (by decide +kernel) ?_
  refine q_iconst C (n := 0) (v := 0) (by decide) (by decide +kernel) ?_
  refine q_istore C Rm.1 (i := 4) (lv' := [(4, .int ((0 : Int32))), (3, .int v2), (0, .ref a0), (1, .int a1), (2, .int a2)]) rfl (by decide) (by decide +kernel) ?_
  refine q_iconst C (n := 0) (v := 0) (by decide) (by decide +kernel) ?_
  refine q_istore C Rm.1 (i := 5) (lv' := [(5, .int ((0 : Int32))), (4, .int ((0 : Int32))), (3, .int v2), (0, .ref a0), (1, .int a1), (2, .int a2)]) rfl (by decide) (by decide +kernel) ?_
  refine q_loc [3, 4, 5, 2, 1, 0] rfl ?_
  exact v_X10_crossOver_13 C Rm K _ _ _ _ _ _ _ _ hm
def m_X10_stepToFront_47 (k2 : q_H → Nat → Int32 → Int32 → Int32 → Option q_H) (h : q_H) (x0 : Nat) (x1 : Int32) (x2 : Int32) (x3 : Int32) : Option q_H :=
  k2 h x0 x1 x2 ((x3 + (1 : Int32)))
set_option maxRecDepth 20000 in
set_option maxHeartbeats 1000000 in
theorem v_X10_stepToFront_47 {Γ : q_G} {sz : Nat} {h' : q_H} (C : q_C Γ cX10_stepToFront RX10) (Rm : q_Rm Γ 4 0 0 0 0) {k2 : q_H → Nat → Int32 → Int32 → Int32 → Option q_H} (K : q_K Γ cX10_stepToFront .return_ sz h' 0 0 []) (hk2 : ∀ (h : q_H) (x0 : Nat) (x1 : Int32) (x2 : Int32) (x3 : Int32), k2 h x0 x1 x2 x3 = some h' → q_V Γ sz 0 0 h [(0, .ref x0), (1, .int x1), (2, .int x2), (3, .int x3)] [] 2) : ∀ (h : q_H) (x0 : Nat) (x1 : Int32) (x2 : Int32) (x3 : Int32), m_X10_stepToFront_47 k2 h x0 x1 x2 x3 = some h' → q_V Γ sz 0 0 h [(0, .ref x0), (1, .int x1), (2, .int x2), (3, .int x3)] [] 47 := by
  intro h x0 x1 x2 x3 hm
  unfold m_X10_stepToFront_47 at hm
  refine q_iinc C Rm.1 (i := 3) (n := 1) (v := (x3 + (1 : Int32))) 3 rfl (q_inc _ (by decide)) (lv' := [(3, .int ((x3 + (1 : Int32)))), (0, .ref x0), (1, .int x1), (2, .int x2)]) rfl (by decide) (by decide +kernel) ?_
  refine q_goto C (off := -48) 2 (by decide +kernel) (by decide) ?_
  refine q_loc [1, 2, 3, 0] rfl ?_
  exact hk2 _ _ _ _ _ hm
def m_X10_stepToFront_2  : Nat → q_H → Nat → Int32 → Int32 → Int32 → Option q_H
  | 0, _, _, _, _, _ => none
  | n + 1, h, x0, x1, x2, x3 =>
    if x2 ≤ x3 then
      (q_gn h x0 10 4).bind fun v1 =>
      (q_si h v1 1 x1 ((0 : Int32))).bind fun h2 =>
      some h2
    else
      (q_gn h x0 10 3).bind fun v3 =>
      (q_ai h v3 1 x3).bind fun v4 =>
      (q_gn h x0 10 3).bind fun v5 =>
      (q_ai h v5 1 x1).bind fun v6 =>
      if v4 = v6 then
        (q_gn h x0 10 4).bind fun v7 =>
        (q_ai h v7 1 x3).bind fun v8 =>
        (q_gn h x0 10 4).bind fun v9 =>
        (q_ai h v9 1 x1).bind fun v10 =>
        if v10 ≤ v8 then
          m_X10_stepToFront_47 (m_X10_stepToFront_2 n) h x0 x1 x2 x3
        else
          (q_gn h x0 10 4).bind fun v11 =>
          (q_ai h v11 1 x3).bind fun v12 =>
          (q_si h v11 1 x3 ((v12 + (1 : Int32)))).bind fun h13 =>
          m_X10_stepToFront_47 (m_X10_stepToFront_2 n) h13 x0 x1 x2 x3
      else
        m_X10_stepToFront_47 (m_X10_stepToFront_2 n) h x0 x1 x2 x3
set_option maxRecDepth 20000 in
set_option maxHeartbeats 1000000 in
theorem v_X10_stepToFront_2 {Γ : q_G} {sz : Nat} {h' : q_H} (C : q_C Γ cX10_stepToFront RX10) (Rm : q_Rm Γ 4 0 0 0 0)  (K : q_K Γ cX10_stepToFront .return_ sz h' 0 0 [])  : ∀ (n : Nat) (h : q_H) (x0 : Nat) (x1 : Int32) (x2 : Int32) (x3 : Int32), m_X10_stepToFront_2 n h x0 x1 x2 x3 = some h' → q_V Γ sz 0 0 h [(0, .ref x0), (1, .int x1), (2, .int x2), (3, .int x3)] [] 2 := by
  intro n
  induction n with
  | zero => intro h x0 x1 x2 x3 hm; cases hm
  | succ n ih =>
    intro h x0 x1 x2 x3 hm
    unfold m_X10_stepToFront_2 at hm
    refine q_iload_n C (k4 := 3) 3 rfl (by decide +kernel) ?_
    refine q_iload_n C (k4 := 2) 2 rfl (by decide +kernel) ?_
    refine q_icmp_ge C (off := 49) 53 hm (by decide +kernel) (by decide) (fun _ hm => ?_) (fun _ hm => ?_)
    · refine q_aload_n C (k4 := 0) 0 rfl (by decide +kernel) ?_
      refine q_getn C fl_10_15 hm (by decide +kernel) (fun v1 hm => ?_)
      refine q_iload_n C (k4 := 1) 1 rfl (by decide +kernel) ?_
      refine q_iconst C (n := 0) (v := 0) (by decide) (by decide +kernel) ?_
      refine q_iw C hm (by decide +kernel) (fun h2 hm => ?_)
      exact q_rvS hm K (by decide +kernel)
    · refine q_aload_n C (k4 := 0) 0 rfl (by decide +kernel) ?_
      refine q_getn C fl_10_9 hm (by decide +kernel) (fun v3 hm => ?_)
      refine q_iload_n C (k4 := 3) 3 rfl (by decide +kernel) ?_
      refine q_ir C hm (by decide +kernel) (fun v4 hm => ?_)
      refine q_aload_n C (k4 := 0) 0 rfl (by decide +kernel) ?_
      refine q_getn C fl_10_9 hm (by decide +kernel) (fun v5 hm => ?_)
      refine q_iload_n C (k4 := 1) 1 rfl (by decide +kernel) ?_
      refine q_ir C hm (by decide +kernel) (fun v6 hm => ?_)
      refine q_icmp_ne C (off := 28) 47 hm (by decide +kernel) (by decide) (fun _ hm => ?_) (fun _ hm => ?_)
      · exact v_X10_stepToFront_47 C Rm K ih _ _ _ _ _ hm
      · refine q_aload_n C (k4 := 0) 0 rfl (by decide +kernel) ?_
        refine q_getn C fl_10_15 hm (by decide +kernel) (fun v7 hm => ?_)
        refine q_iload_n C (k4 := 3) 3 rfl (by decide +kernel) ?_
        refine q_ir C hm (by decide +kernel) (fun v8 hm => ?_)
        refine q_aload_n C (k4 := 0) 0 rfl (by decide +kernel) ?_
        refine q_getn C fl_10_15 hm (by decide +kernel) (fun v9 hm => ?_)
        refine q_iload_n C (k4 := 1) 1 rfl (by decide +kernel) ?_
        refine q_ir C hm (by decide +kernel) (fun v10 hm => ?_)
        refine q_icmp_ge C (off := 13) 47 hm (by decide +kernel) (by decide) (fun _ hm => ?_) (fun _ hm => ?_)
        · exact v_X10_stepToFront_47 C Rm K ih _ _ _ _ _ hm
        · refine q_aload_n C (k4 := 0) 0 rfl (by decide +kernel) ?_
          refine q_getn C fl_10_15 hm (by decide +kernel) (fun v11 hm => ?_)
          refine q_iload_n C (k4 := 3) 3 rfl (by decide +kernel) ?_
          refine q_dup2 C rfl rfl (by decide +kernel) ?_
          refine q_ir C hm (by decide +kernel) (fun v12 hm => ?_)
          refine q_iconst C (n := 1) (v := 1) (by decide) (by decide +kernel) ?_
          refine q_iadd C (by decide +kernel) ?_
          refine q_iw C hm (by decide +kernel) (fun h13 hm => ?_)
          exact v_X10_stepToFront_47 C Rm K ih _ _ _ _ _ hm
def m_X10_stepToFront (h : q_H) (a0 : Nat) (a1 : Int32) (a2 : Int32) : Option q_H :=
  m_X10_stepToFront_2 q_fu h a0 a1 a2 ((0 : Int32))
set_option maxRecDepth 20000 in
set_option maxHeartbeats 1000000 in
theorem c_X10_stepToFront (l : Launch) (base : Nat) (D : va_G) (tc : Nat → ClassId) (sz : Nat) (h : q_H) (a0 : Nat) (a1 : Int32) (a2 : Int32) {h' : q_H} (hm : m_X10_stepToFront h a0 a1 a2 = some h') : q_M l yX10_stepToFront cX10_stepToFront 4 none 0 0 0 0 base D tc [.ref a0, .int a1, .int a2] sz h none sz h' := by
  refine q_startv (by decide) (Nat.le_of_ble_eq_true rfl) (fun Γ B K => ?_)
  obtain ⟨C, Rm, -⟩ := B
  have C : q_C Γ cX10_stepToFront RX10 := C
  show q_V Γ sz 0 0 h [(0, .ref a0), (1, .int a1), (2, .int a2)] [] 0
  unfold m_X10_stepToFront at hm
  refine q_iconst C (n := 0) (v := 0) (by decide) (by decide +kernel) ?_
  refine q_istore_n C Rm.1 (k4 := 3) (i := 3) rfl (lv' := [(3, .int ((0 : Int32))), (0, .ref a0), (1, .int a1), (2, .int a2)]) rfl (by decide) (by decide +kernel) ?_
  refine q_loc [1, 2, 3, 0] rfl ?_
  exact v_X10_stepToFront_2 C Rm K _ _ _ _ _ _ hm
def m_X10_penceOf_96 (k36 : q_H → Nat → Int32 → Int32 → Int32 → Int32 → Int32 → Int32 → Int32 → Int32 → Option Int32) (h0 : q_H) (x0 : Nat) (x1 : Int32) (x2 : Int32) (x3 : Int32) (x4 : Int32) (x5 : Int32) (x6 : Int32) (x7 : Int32) (x8 : Int32) : Option Int32 :=
  k36 h0 x0 x1 x2 x3 x4 x5 x6 x7 ((x8 + (1 : Int32)))
set_option maxRecDepth 20000 in
set_option maxHeartbeats 1000000 in
theorem v_X10_penceOf_96 {Γ : q_G} {sz : Nat} {h0 : q_H} {r : Int32} (C : q_C Γ cX10_penceOf RX10) (Rm : q_Rm Γ 10 1 23 0 0) {k36 : q_H → Nat → Int32 → Int32 → Int32 → Int32 → Int32 → Int32 → Int32 → Int32 → Option Int32} (K : narrow .int (.int r) = .int r → q_K Γ cX10_penceOf .ireturn sz h0 0 0 [.int r]) (hk36 : ∀ (x0 : Nat) (x1 : Int32) (x2 : Int32) (x3 : Int32) (x4 : Int32) (x5 : Int32) (x6 : Int32) (x7 : Int32) (x8 : Int32), k36 h0 x0 x1 x2 x3 x4 x5 x6 x7 x8 = some r → q_V Γ sz 0 0 h0 [(0, .ref x0), (1, .int x1), (2, .int x2), (3, .int x3), (4, .int x4), (5, .int x5), (6, .int x6), (7, .int x7), (8, .int x8)] [] 36) : ∀ (x0 : Nat) (x1 : Int32) (x2 : Int32) (x3 : Int32) (x4 : Int32) (x5 : Int32) (x6 : Int32) (x7 : Int32) (x8 : Int32), m_X10_penceOf_96 k36 h0 x0 x1 x2 x3 x4 x5 x6 x7 x8 = some r → q_V Γ sz 0 0 h0 [(0, .ref x0), (1, .int x1), (2, .int x2), (3, .int x3), (4, .int x4), (5, .int x5), (6, .int x6), (7, .int x7), (8, .int x8)] [] 96 := by
  intro x0 x1 x2 x3 x4 x5 x6 x7 x8 hm
  unfold m_X10_penceOf_96 at hm
  refine q_iinc C Rm.1 (i := 8) (n := 1) (v := (x8 + (1 : Int32))) 8 rfl (q_inc _ (by decide)) (lv' := [(8, .int ((x8 + (1 : Int32)))), (0, .ref x0), (1, .int x1), (2, .int x2), (3, .int x3), (4, .int x4), (5, .int x5), (6, .int x6), (7, .int x7)]) rfl (by decide) (by decide +kernel) ?_
  refine q_goto C (off := -63) 36 (by decide +kernel) (by decide) ?_
  refine q_loc [1, 2, 3, 4, 5, 6, 7, 8, 0] rfl ?_
  exact hk36 _ _ _ _ _ _ _ _ _ hm
def m_X10_penceOf_93 (k36 : q_H → Nat → Int32 → Int32 → Int32 → Int32 → Int32 → Int32 → Int32 → Int32 → Option Int32) (h0 : q_H) (x0 : Nat) (x1 : Int32) (x2 : Int32) (x3 : Int32) (x4 : Int32) (x5 : Int32) (x6 : Int32) (x7 : Int32) (x8 : Int32) : Option Int32 :=
  m_X10_penceOf_96 k36 h0 x0 x1 x2 x3 x4 x5 ((x6 + (1 : Int32))) x7 x8
set_option maxRecDepth 20000 in
set_option maxHeartbeats 1000000 in
theorem v_X10_penceOf_93 {Γ : q_G} {sz : Nat} {h0 : q_H} {r : Int32} (C : q_C Γ cX10_penceOf RX10) (Rm : q_Rm Γ 10 1 23 0 0) {k36 : q_H → Nat → Int32 → Int32 → Int32 → Int32 → Int32 → Int32 → Int32 → Int32 → Option Int32} (K : narrow .int (.int r) = .int r → q_K Γ cX10_penceOf .ireturn sz h0 0 0 [.int r]) (hk36 : ∀ (x0 : Nat) (x1 : Int32) (x2 : Int32) (x3 : Int32) (x4 : Int32) (x5 : Int32) (x6 : Int32) (x7 : Int32) (x8 : Int32), k36 h0 x0 x1 x2 x3 x4 x5 x6 x7 x8 = some r → q_V Γ sz 0 0 h0 [(0, .ref x0), (1, .int x1), (2, .int x2), (3, .int x3), (4, .int x4), (5, .int x5), (6, .int x6), (7, .int x7), (8, .int x8)] [] 36) : ∀ (x0 : Nat) (x1 : Int32) (x2 : Int32) (x3 : Int32) (x4 : Int32) (x5 : Int32) (x6 : Int32) (x7 : Int32) (x8 : Int32), m_X10_penceOf_93 k36 h0 x0 x1 x2 x3 x4 x5 x6 x7 x8 = some r → q_V Γ sz 0 0 h0 [(0, .ref x0), (1, .int x1), (2, .int x2), (3, .int x3), (4, .int x4), (5, .int x5), (6, .int x6), (7, .int x7), (8, .int x8)] [] 93 := by
  intro x0 x1 x2 x3 x4 x5 x6 x7 x8 hm
  unfold m_X10_penceOf_93 at hm
  refine q_iinc C Rm.1 (i := 6) (n := 1) (v := (x6 + (1 : Int32))) 6 rfl (q_inc _ (by decide)) (lv' := [(6, .int ((x6 + (1 : Int32)))), (0, .ref x0), (1, .int x1), (2, .int x2), (3, .int x3), (4, .int x4), (5, .int x5), (7, .int x7), (8, .int x8)]) rfl (by decide) (by decide +kernel) ?_
  refine q_loc [1, 2, 3, 4, 5, 6, 0, 7, 8] rfl ?_
  exact v_X10_penceOf_96 C Rm K hk36 _ _ _ _ _ _ _ _ _ hm
def m_X10_penceOf_125  (h0 : q_H) (s0 : Int32) (s1 : Int32) : Option Int32 :=
  some ((s1 + s0))
set_option maxRecDepth 20000 in
set_option maxHeartbeats 1000000 in
theorem v_X10_penceOf_125 {Γ : q_G} {sz : Nat} {h0 : q_H} {r : Int32} (C : q_C Γ cX10_penceOf RX10) (Rm : q_Rm Γ 10 1 23 0 0)  (K : narrow .int (.int r) = .int r → q_K Γ cX10_penceOf .ireturn sz h0 0 0 [.int r])  : ∀ (s0 : Int32) (s1 : Int32), m_X10_penceOf_125 h0 s0 s1 = some r → q_V Γ sz 0 0 h0 [] [.int s0, .int s1] 125 := by
  intro s0 s1 hm
  unfold m_X10_penceOf_125 at hm
  refine q_iadd C (by decide +kernel) ?_
  exact q_riP hm K rfl (by decide +kernel)
def m_X10_penceOf_36  : Nat → q_H → Nat → Int32 → Int32 → Int32 → Int32 → Int32 → Int32 → Int32 → Int32 → Option Int32
  | 0, _, _, _, _, _, _, _, _, _, _ => none
  | n + 1, h0, x0, x1, x2, x3, x4, x5, x6, x7, x8 =>
    if x3 ≤ x8 then
      (q_gn h0 x0 10 6).bind fun v5 =>
      (q_ai h0 v5 1 x2).bind fun v6 =>
      if x4 = 0 then none else
      if x5 ≤ x6 then
        m_X10_penceOf_125 h0 ((0 : Int32)) (((x1 * v6) / x4))
      else
        m_X10_penceOf_125 h0 ((1 : Int32)) (((x1 * v6) / x4))
    else
      (q_gn h0 x0 10 6).bind fun v7 =>
      (q_ai h0 v7 1 x8).bind fun v8 =>
      if x4 = 0 then none else
      (q_gn h0 x0 10 6).bind fun v9 =>
      (q_ai h0 v9 1 x8).bind fun v10 =>
      if x4 = 0 then none else
      if x7 < (q_rmi ((x1 * v8)) x4) then
        m_X10_penceOf_93 (m_X10_penceOf_36 n) h0 x0 x1 x2 x3 x4 ((x5 - ((x1 * v10) / x4))) x6 x7 x8
      else
        if (q_rmi ((x1 * v8)) x4) = x7 then
          if x2 ≤ x8 then
            m_X10_penceOf_96 (m_X10_penceOf_36 n) h0 x0 x1 x2 x3 x4 ((x5 - ((x1 * v10) / x4))) x6 x7 x8
          else
            m_X10_penceOf_93 (m_X10_penceOf_36 n) h0 x0 x1 x2 x3 x4 ((x5 - ((x1 * v10) / x4))) x6 x7 x8
        else
          m_X10_penceOf_96 (m_X10_penceOf_36 n) h0 x0 x1 x2 x3 x4 ((x5 - ((x1 * v10) / x4))) x6 x7 x8
set_option maxRecDepth 20000 in
set_option maxHeartbeats 1000000 in
theorem v_X10_penceOf_36 {Γ : q_G} {sz : Nat} {h0 : q_H} {r : Int32} (C : q_C Γ cX10_penceOf RX10) (Rm : q_Rm Γ 10 1 23 0 0)  (K : narrow .int (.int r) = .int r → q_K Γ cX10_penceOf .ireturn sz h0 0 0 [.int r])  : ∀ (n : Nat) (x0 : Nat) (x1 : Int32) (x2 : Int32) (x3 : Int32) (x4 : Int32) (x5 : Int32) (x6 : Int32) (x7 : Int32) (x8 : Int32), m_X10_penceOf_36 n h0 x0 x1 x2 x3 x4 x5 x6 x7 x8 = some r → q_V Γ sz 0 0 h0 [(0, .ref x0), (1, .int x1), (2, .int x2), (3, .int x3), (4, .int x4), (5, .int x5), (6, .int x6), (7, .int x7), (8, .int x8)] [] 36 := by
  intro n
  induction n with
  | zero => intro x0 x1 x2 x3 x4 x5 x6 x7 x8 hm; cases hm
  | succ n ih =>
    intro x0 x1 x2 x3 x4 x5 x6 x7 x8 hm
    unfold m_X10_penceOf_36 at hm
    refine q_iload C (i := 8) 8 rfl (by decide +kernel) ?_
    refine q_iload_n C (k4 := 3) 3 rfl (by decide +kernel) ?_
    refine q_icmp_ge C (off := 63) 102 hm (by decide +kernel) (by decide) (fun _ hm => ?_) (fun _ hm => ?_)
    · refine q_iload_n C (k4 := 1) 1 rfl (by decide +kernel) ?_
      refine q_aload_n C (k4 := 0) 0 rfl (by decide +kernel) ?_
      refine q_getn C fl_10_21 hm (by decide +kernel) (fun v5 hm => ?_)
      refine q_iload_n C (k4 := 2) 2 rfl (by decide +kernel) ?_
      refine q_ir C hm (by decide +kernel) (fun v6 hm => ?_)
      refine q_imul C (by decide +kernel) ?_
      refine q_iload C (i := 4) 4 rfl (by decide +kernel) ?_
      refine q_idivc C hm (by decide +kernel) (fun hm => ?_)
      refine q_iload C (i := 6) 6 rfl (by decide +kernel) ?_
      refine q_iload C (i := 5) 5 rfl (by decide +kernel) ?_
      refine q_icmp_ge C (off := 7) 124 hm (by decide +kernel) (by decide) (fun _ hm => ?_) (fun _ hm => ?_)
      · refine q_iconst C (n := 0) (v := 0) (by decide) (by decide +kernel) ?_
        refine q_loc [] rfl ?_
        exact v_X10_penceOf_125 C Rm K _ _ hm
      · refine q_iconst C (n := 1) (v := 1) (by decide) (by decide +kernel) ?_
        refine q_goto C (off := 4) 125 (by decide +kernel) (by decide) ?_
        refine q_loc [] rfl ?_
        exact v_X10_penceOf_125 C Rm K _ _ hm
    · refine q_iload_n C (k4 := 1) 1 rfl (by decide +kernel) ?_
      refine q_aload_n C (k4 := 0) 0 rfl (by decide +kernel) ?_
      refine q_getn C fl_10_21 hm (by decide +kernel) (fun v7 hm => ?_)
      refine q_iload C (i := 8) 8 rfl (by decide +kernel) ?_
      refine q_ir C hm (by decide +kernel) (fun v8 hm => ?_)
      refine q_imul C (by decide +kernel) ?_
      refine q_iload C (i := 4) 4 rfl (by decide +kernel) ?_
      refine q_iremc C hm (by decide +kernel) (fun hm => ?_)
      refine q_istore C Rm.1 (i := 9) (lv' := [(9, .int ((q_rmi ((x1 * v8)) x4))), (0, .ref x0), (1, .int x1), (2, .int x2), (3, .int x3), (4, .int x4), (5, .int x5), (6, .int x6), (7, .int x7), (8, .int x8)]) rfl (by decide) (by decide +kernel) ?_
      refine q_iload C (i := 5) 6 rfl (by decide +kernel) ?_
      refine q_iload_n C (k4 := 1) 2 rfl (by decide +kernel) ?_
      refine q_aload_n C (k4 := 0) 1 rfl (by decide +kernel) ?_
      refine q_getn C fl_10_21 hm (by decide +kernel) (fun v9 hm => ?_)
      refine q_iload C (i := 8) 9 rfl (by decide +kernel) ?_
      refine q_ir C hm (by decide +kernel) (fun v10 hm => ?_)
      refine q_imul C (by decide +kernel) ?_
      refine q_iload C (i := 4) 5 rfl (by decide +kernel) ?_
      refine q_idivc C hm (by decide +kernel) (fun hm => ?_)
      refine q_isub C (by decide +kernel) ?_
      refine q_istore C Rm.1 (i := 5) (lv' := [(5, .int ((x5 - ((x1 * v10) / x4)))), (9, .int ((q_rmi ((x1 * v8)) x4))), (0, .ref x0), (1, .int x1), (2, .int x2), (3, .int x3), (4, .int x4), (6, .int x6), (7, .int x7), (8, .int x8)]) rfl (by decide) (by decide +kernel) ?_
      refine q_iload C (i := 9) 1 rfl (by decide +kernel) ?_
      refine q_iload C (i := 7) 8 rfl (by decide +kernel) ?_
      refine q_icmp_gt C (off := 16) 93 hm (by decide +kernel) (by decide) (fun _ hm => ?_) (fun _ hm => ?_)
      · refine q_loc [2, 3, 4, 5, 6, 0, 7, 8, 9] rfl ?_
        exact v_X10_penceOf_93 C Rm K ih _ _ _ _ _ _ _ _ _ hm
      · refine q_iload C (i := 9) 1 rfl (by decide +kernel) ?_
        refine q_iload C (i := 7) 8 rfl (by decide +kernel) ?_
        refine q_icmp_ne C (off := 12) 96 hm (by decide +kernel) (by decide) (fun _ hm => ?_) (fun _ hm => ?_)
        · refine q_loc [2, 3, 4, 5, 6, 0, 7, 8, 9] rfl ?_
          exact v_X10_penceOf_96 C Rm K ih _ _ _ _ _ _ _ _ _ hm
        · refine q_iload C (i := 8) 9 rfl (by decide +kernel) ?_
          refine q_iload_n C (k4 := 2) 4 rfl (by decide +kernel) ?_
          refine q_icmp_ge C (off := 6) 96 hm (by decide +kernel) (by decide) (fun _ hm => ?_) (fun _ hm => ?_)
          · refine q_loc [2, 3, 4, 5, 6, 0, 7, 8, 9] rfl ?_
            exact v_X10_penceOf_96 C Rm K ih _ _ _ _ _ _ _ _ _ hm
          · refine q_loc [2, 3, 4, 5, 6, 0, 7, 8, 9] rfl ?_
            exact v_X10_penceOf_93 C Rm K ih _ _ _ _ _ _ _ _ _ hm
def m_X10_penceOf (h0 : q_H) (a0 : Nat) (a1 : Int32) (a2 : Int32) (a3 : Int32) : Option Int32 :=
  (q_ca 10 h0 a0 (m_X10_workedTogether h0 a0 a3)).bind fun r1 =>
  if r1 = 0 then
    some ((0 : Int32))
  else
    (q_gn h0 a0 10 6).bind fun v3 =>
    (q_ai h0 v3 1 a2).bind fun v4 =>
    if r1 = 0 then none else
    m_X10_penceOf_36 q_fu h0 a0 a1 a2 a3 r1 a1 ((0 : Int32)) ((q_rmi ((a1 * v4)) r1)) ((0 : Int32))
set_option maxRecDepth 20000 in
set_option maxHeartbeats 1000000 in
theorem c_X10_penceOf (l : Launch) (base : Nat) (D : va_G) (tc : Nat → ClassId) (sz : Nat) (h0 : q_H) (a0 : Nat) (a1 : Int32) (a2 : Int32) (a3 : Int32) {r : Int32} (hm : m_X10_penceOf h0 a0 a1 a2 a3 = some r) : q_M l yX10_penceOf cX10_penceOf 10 (some .int) 1 23 0 0 base D tc [.ref a0, .int a1, .int a2, .int a3] sz h0 (some (.int r)) sz h0 := by
  refine q_starti (by decide) (Nat.le_of_ble_eq_true rfl) (fun Γ B K => ?_)
  obtain ⟨C, Rm, -⟩ := B
  have C : q_C Γ cX10_penceOf RX10 := C
  show q_V Γ sz 0 0 h0 [(0, .ref a0), (1, .int a1), (2, .int a2), (3, .int a3)] [] 0
  unfold m_X10_penceOf at hm
  refine q_aload_n C (k4 := 0) 0 rfl (by decide +kernel) ?_
  refine q_iload_n C (k4 := 3) 3 rfl (by decide +kernel) ?_
  refine q_viP C Rm (As := [.int a3]) (rest := []) Y_X10_workedTogether Yv_X10_workedTogether ml_X10_52 (by decide) (by decide) hm (fun r9 e9 => c_X10_workedTogether _ _ _ _ _ _ _ _ e9) rfl rfl (Nat.le_of_ble_eq_true rfl) (by decide +kernel) (fun r1 hm z2 => ?_)
  refine q_istore C Rm.1 (i := 4) (lv' := [(4, .int r1), (0, .ref a0), (1, .int a1), (2, .int a2), (3, .int a3)]) rfl (by decide) (by decide +kernel) ?_
  refine q_iload C (i := 4) 0 rfl (by decide +kernel) ?_
  refine q_if_ne C (off := 5) 14 hm (by decide +kernel) (by decide) (fun _ hm => ?_) (fun _ hm => ?_)
  · refine q_iload_n C (k4 := 1) 2 rfl (by decide +kernel) ?_
    refine q_istore C Rm.1 (i := 5) (lv' := [(5, .int a1), (4, .int r1), (0, .ref a0), (1, .int a1), (2, .int a2), (3, .int a3)]) rfl (by decide) (by decide +kernel) ?_
    refine q_iconst C (n := 0) (v := 0) (by decide) (by decide +kernel) ?_
    refine q_istore C Rm.1 (i := 6) (lv' := [(6, .int ((0 : Int32))), (5, .int a1), (4, .int r1), (0, .ref a0), (1, .int a1), (2, .int a2), (3, .int a3)]) rfl (by decide) (by decide +kernel) ?_
    refine q_iload_n C (k4 := 1) 4 rfl (by decide +kernel) ?_
    refine q_aload_n C (k4 := 0) 3 rfl (by decide +kernel) ?_
    refine q_getn C fl_10_21 hm (by decide +kernel) (fun v3 hm => ?_)
    refine q_iload_n C (k4 := 2) 5 rfl (by decide +kernel) ?_
    refine q_ir C hm (by decide +kernel) (fun v4 hm => ?_)
    refine q_imul C (by decide +kernel) ?_
    refine q_iload C (i := 4) 2 rfl (by decide +kernel) ?_
    refine q_iremc C hm (by decide +kernel) (fun hm => ?_)
    refine q_istore C Rm.1 (i := 7) (lv' := [(7, .int ((q_rmi ((a1 * v4)) r1))), (6, .int ((0 : Int32))), (5, .int a1), (4, .int r1), (0, .ref a0), (1, .int a1), (2, .int a2), (3, .int a3)]) rfl (by decide) (by decide +kernel) ?_
    refine q_iconst C (n := 0) (v := 0) (by decide) (by decide +kernel) ?_
    refine q_istore C Rm.1 (i := 8) (lv' := [(8, .int ((0 : Int32))), (7, .int ((q_rmi ((a1 * v4)) r1))), (6, .int ((0 : Int32))), (5, .int a1), (4, .int r1), (0, .ref a0), (1, .int a1), (2, .int a2), (3, .int a3)]) rfl (by decide) (by decide +kernel) ?_
    refine q_loc [5, 6, 7, 8, 4, 3, 2, 1, 0] rfl ?_
    exact v_X10_penceOf_36 C Rm K _ _ _ _ _ _ _ _ _ _ hm
  · refine q_iconst C (n := 0) (v := 0) (by decide) (by decide +kernel) ?_
    exact q_riP hm K rfl (by decide +kernel)
def m_X11_feed (h : q_H) (a0 : Nat) (a1 : Int32) (a2 : Int32) (a3 : Int32) (a4 : Int32) (a5 : Int32) : Option (Int32 × q_H) :=
  (q_gn h a0 11 0).bind fun v1 =>
  (q_ca 9 h v1 (m_X9_hasRoomFor h v1 ((20 : Int32)))).bind fun r2 =>
  if r2 = 0 then
    some ((-1 : Int32), h)
  else
    (q_gn h a0 11 0).bind fun v4 =>
    (q_ca 9 h v4 (m_X9_append h v4 a1)).bind fun h6 =>
    (q_gn h6 a0 11 0).bind fun v7 =>
    (q_ca 9 h6 v7 (m_X9_append h6 v7 a2)).bind fun h9 =>
    (q_gn h9 a0 11 0).bind fun v10 =>
    (q_ca 9 h9 v10 (m_X9_append h9 v10 a3)).bind fun h12 =>
    (q_gn h12 a0 11 0).bind fun v13 =>
    (q_ca 9 h12 v13 (m_X9_append h12 v13 a4)).bind fun h15 =>
    (q_gn h15 a0 11 0).bind fun v16 =>
    (q_ca 9 h15 v16 (m_X9_append h15 v16 a5)).bind fun h18 =>
    (q_gn h18 a0 11 0).bind fun v19 =>
    (q_gi h18 v19 9 1).bind fun v20 =>
    some (v20, h18)
set_option maxRecDepth 20000 in
set_option maxHeartbeats 1000000 in
theorem c_X11_feed (l : Launch) (base : Nat) (D : va_G) (tc : Nat → ClassId) (sz : Nat) (h : q_H) (a0 : Nat) (a1 : Int32) (a2 : Int32) (a3 : Int32) (a4 : Int32) (a5 : Int32) {r : Int32} {h' : q_H} (hm : m_X11_feed h a0 a1 a2 a3 a4 a5 = some (r, h')) : q_M l yX11_feed cX11_feed 6 (some .int) 1 22 0 0 base D tc [.ref a0, .int a1, .int a2, .int a3, .int a4, .int a5] sz h (some (.int r)) sz h' := by
  refine q_starti (by decide) (Nat.le_of_ble_eq_true rfl) (fun Γ B K => ?_)
  obtain ⟨C, Rm, -⟩ := B
  have C : q_C Γ cX11_feed RX11 := C
  show q_V Γ sz 0 0 h [(0, .ref a0), (1, .int a1), (2, .int a2), (3, .int a3), (4, .int a4), (5, .int a5)] [] 0
  unfold m_X11_feed at hm
  refine q_aload_n C (k4 := 0) 0 rfl (by decide +kernel) ?_
  refine q_getn C fl_11_10 hm (by decide +kernel) (fun v1 hm => ?_)
  refine q_bipush C (n := 20) (v := 20) (by decide) (by decide +kernel) ?_
  refine q_viP C Rm (As := [.int ((20 : Int32))]) (rest := []) Y_X9_hasRoomFor Yv_X9_hasRoomFor ml_X11_81 (by decide) (by decide) hm (fun r9 e9 => c_X9_hasRoomFor _ _ _ _ _ _ _ _ e9) rfl rfl (Nat.le_of_ble_eq_true rfl) (by decide +kernel) (fun r2 hm z3 => ?_)
  refine q_if_ne C (off := 5) 14 hm (by decide +kernel) (by decide) (fun _ hm => ?_) (fun _ hm => ?_)
  · refine q_aload_n C (k4 := 0) 0 rfl (by decide +kernel) ?_
    refine q_getn C fl_11_10 hm (by decide +kernel) (fun v4 hm => ?_)
    refine q_iload_n C (k4 := 1) 1 rfl (by decide +kernel) ?_
    refine q_vvS C Rm (As := [.int a1]) (rest := []) Y_X9_append Yv_X9_append ml_X11_85 (by decide) (by decide) hm (fun h6 e9 => c_X9_append _ _ _ _ _ _ _ _ e9) rfl rfl (Nat.le_of_ble_eq_true rfl) (by decide +kernel) (fun h6 hm => ?_)
    refine q_aload_n C (k4 := 0) 0 rfl (by decide +kernel) ?_
    refine q_getn C fl_11_10 hm (by decide +kernel) (fun v7 hm => ?_)
    refine q_iload_n C (k4 := 2) 2 rfl (by decide +kernel) ?_
    refine q_vvS C Rm (As := [.int a2]) (rest := []) Y_X9_append Yv_X9_append ml_X11_85 (by decide) (by decide) hm (fun h9 e9 => c_X9_append _ _ _ _ _ _ _ _ e9) rfl rfl (Nat.le_of_ble_eq_true rfl) (by decide +kernel) (fun h9 hm => ?_)
    refine q_aload_n C (k4 := 0) 0 rfl (by decide +kernel) ?_
    refine q_getn C fl_11_10 hm (by decide +kernel) (fun v10 hm => ?_)
    refine q_iload_n C (k4 := 3) 3 rfl (by decide +kernel) ?_
    refine q_vvS C Rm (As := [.int a3]) (rest := []) Y_X9_append Yv_X9_append ml_X11_85 (by decide) (by decide) hm (fun h12 e9 => c_X9_append _ _ _ _ _ _ _ _ e9) rfl rfl (Nat.le_of_ble_eq_true rfl) (by decide +kernel) (fun h12 hm => ?_)
    refine q_aload_n C (k4 := 0) 0 rfl (by decide +kernel) ?_
    refine q_getn C fl_11_10 hm (by decide +kernel) (fun v13 hm => ?_)
    refine q_iload C (i := 4) 4 rfl (by decide +kernel) ?_
    refine q_vvS C Rm (As := [.int a4]) (rest := []) Y_X9_append Yv_X9_append ml_X11_85 (by decide) (by decide) hm (fun h15 e9 => c_X9_append _ _ _ _ _ _ _ _ e9) rfl rfl (Nat.le_of_ble_eq_true rfl) (by decide +kernel) (fun h15 hm => ?_)
    refine q_aload_n C (k4 := 0) 0 rfl (by decide +kernel) ?_
    refine q_getn C fl_11_10 hm (by decide +kernel) (fun v16 hm => ?_)
    refine q_iload C (i := 5) 5 rfl (by decide +kernel) ?_
    refine q_vvS C Rm (As := [.int a5]) (rest := []) Y_X9_append Yv_X9_append ml_X11_85 (by decide) (by decide) hm (fun h18 e9 => c_X9_append _ _ _ _ _ _ _ _ e9) rfl rfl (Nat.le_of_ble_eq_true rfl) (by decide +kernel) (fun h18 hm => ?_)
    refine q_aload_n C (k4 := 0) 0 rfl (by decide +kernel) ?_
    refine q_getn C fl_11_10 hm (by decide +kernel) (fun v19 hm => ?_)
    refine q_geti C fl_11_89 hm (by decide +kernel) (fun v20 hm => ?_)
    exact q_riS hm K rfl (by decide +kernel)
  · refine q_iconst C (n := (-1)) (v := (-1)) (by decide) (by decide +kernel) ?_
    exact q_riS hm K rfl (by decide +kernel)
def m_X11_end (h : q_H) (a0 : Nat) (a1 : Int32) : Option (Int32 × q_H) :=
  if a1 < 0 then
    some ((-1 : Int32), h)
  else
    (q_gn h a0 11 0).bind fun v1 =>
    (q_gi h v1 9 1).bind fun v2 =>
    if a1 ≤ v2 then
      (q_gn h a0 11 0).bind fun v3 =>
      (q_pf h v3 9 1 (.int a1)).bind fun h4 =>
      some (a1, h4)
    else
      some ((-1 : Int32), h)
set_option maxRecDepth 20000 in
set_option maxHeartbeats 1000000 in
theorem c_X11_end (l : Launch) (base : Nat) (D : va_G) (tc : Nat → ClassId) (sz : Nat) (h : q_H) (a0 : Nat) (a1 : Int32) {r : Int32} {h' : q_H} (hm : m_X11_end h a0 a1 = some (r, h')) : q_M l yX11_end cX11_end 2 (some .int) 0 0 0 0 base D tc [.ref a0, .int a1] sz h (some (.int r)) sz h' := by
  refine q_starti (by decide) (Nat.le_of_ble_eq_true rfl) (fun Γ B K => ?_)
  obtain ⟨C, Rm, -⟩ := B
  have C : q_C Γ cX11_end RX11 := C
  show q_V Γ sz 0 0 h [(0, .ref a0), (1, .int a1)] [] 0
  unfold m_X11_end at hm
  refine q_iload_n C (k4 := 1) 1 rfl (by decide +kernel) ?_
  refine q_if_lt C (off := 14) 15 hm (by decide +kernel) (by decide) (fun _ hm => ?_) (fun _ hm => ?_)
  · refine q_iconst C (n := (-1)) (v := (-1)) (by decide) (by decide +kernel) ?_
    exact q_riS hm K rfl (by decide +kernel)
  · refine q_iload_n C (k4 := 1) 1 rfl (by decide +kernel) ?_
    refine q_aload_n C (k4 := 0) 0 rfl (by decide +kernel) ?_
    refine q_getn C fl_11_10 hm (by decide +kernel) (fun v1 hm => ?_)
    refine q_geti C fl_11_89 hm (by decide +kernel) (fun v2 hm => ?_)
    refine q_icmp_le C (off := 5) 17 hm (by decide +kernel) (by decide) (fun _ hm => ?_) (fun _ hm => ?_)
    · refine q_aload_n C (k4 := 0) 0 rfl (by decide +kernel) ?_
      refine q_getn C fl_11_10 hm (by decide +kernel) (fun v3 hm => ?_)
      refine q_iload_n C (k4 := 1) 1 rfl (by decide +kernel) ?_
      refine q_putf C fl_11_89 hm rfl rfl (by decide +kernel) (fun h4 hm => ?_)
      refine q_iload_n C (k4 := 1) 1 rfl (by decide +kernel) ?_
      exact q_riS hm K rfl (by decide +kernel)
    · refine q_iconst C (n := (-1)) (v := (-1)) (by decide) (by decide +kernel) ?_
      exact q_riS hm K rfl (by decide +kernel)
def m_X11_force (h : q_H) (a0 : Nat) (a1 : Int32) : Option (Int32 × q_H) :=
  if a1 < (-1 : Int32) then
    some ((-2 : Int32), h)
  else
    (q_gi h a0 11 4).bind fun v1 =>
    if a1 < v1 then
      (q_gn h a0 11 5).bind fun v2 =>
      (q_gi h v2 0 2).bind fun v3 =>
      (q_gn h a0 11 5).bind fun v4 =>
      (q_pf h v4 0 2 (.int a1)).bind fun h5 =>
      some (v3, h5)
    else
      some ((-2 : Int32), h)
set_option maxRecDepth 20000 in
set_option maxHeartbeats 1000000 in
theorem c_X11_force (l : Launch) (base : Nat) (D : va_G) (tc : Nat → ClassId) (sz : Nat) (h : q_H) (a0 : Nat) (a1 : Int32) {r : Int32} {h' : q_H} (hm : m_X11_force h a0 a1 = some (r, h')) : q_M l yX11_force cX11_force 3 (some .int) 0 0 0 0 base D tc [.ref a0, .int a1] sz h (some (.int r)) sz h' := by
  refine q_starti (by decide) (Nat.le_of_ble_eq_true rfl) (fun Γ B K => ?_)
  obtain ⟨C, Rm, -⟩ := B
  have C : q_C Γ cX11_force RX11 := C
  show q_V Γ sz 0 0 h [(0, .ref a0), (1, .int a1)] [] 0
  unfold m_X11_force at hm
  refine q_iload_n C (k4 := 1) 1 rfl (by decide +kernel) ?_
  refine q_iconst C (n := (-1)) (v := (-1)) (by decide) (by decide +kernel) ?_
  refine q_icmp_lt C (off := 11) 13 hm (by decide +kernel) (by decide) (fun _ hm => ?_) (fun _ hm => ?_)
  · refine q_bipush C (n := (-2)) (v := (-2)) (by decide) (by decide +kernel) ?_
    exact q_riS hm K rfl (by decide +kernel)
  · refine q_iload_n C (k4 := 1) 1 rfl (by decide +kernel) ?_
    refine q_aload_n C (k4 := 0) 0 rfl (by decide +kernel) ?_
    refine q_geti C fl_11_43 hm (by decide +kernel) (fun v1 hm => ?_)
    refine q_icmp_lt C (off := 6) 16 hm (by decide +kernel) (by decide) (fun _ hm => ?_) (fun _ hm => ?_)
    · refine q_aload_n C (k4 := 0) 0 rfl (by decide +kernel) ?_
      refine q_getn C fl_11_50 hm (by decide +kernel) (fun v2 hm => ?_)
      refine q_geti C fl_11_129 hm (by decide +kernel) (fun v3 hm => ?_)
      refine q_istore_n C Rm.1 (k4 := 2) (i := 2) rfl (lv' := [(2, .int v3), (0, .ref a0), (1, .int a1)]) rfl (by decide) (by decide +kernel) ?_
      refine q_aload_n C (k4 := 0) 1 rfl (by decide +kernel) ?_
      refine q_getn C fl_11_50 hm (by decide +kernel) (fun v4 hm => ?_)
      refine q_iload_n C (k4 := 1) 2 rfl (by decide +kernel) ?_
      refine q_putf C fl_11_129 hm rfl rfl (by decide +kernel) (fun h5 hm => ?_)
      refine q_iload_n C (k4 := 2) 0 rfl (by decide +kernel) ?_
      exact q_riS hm K rfl (by decide +kernel)
    · refine q_bipush C (n := (-2)) (v := (-2)) (by decide) (by decide +kernel) ?_
      exact q_riS hm K rfl (by decide +kernel)
def m_X11_puller (h0 : q_H) (a0 : Nat) (a1 : Int32) (a2 : Int32) : Option Int32 :=
  (q_gn h0 a0 11 5).bind fun v1 =>
  (q_ca 0 h0 v1 (m_X0_has h0 v1 a1)).bind fun r2 =>
  if r2 = 0 then
    some ((-1 : Int32))
  else
    if a2 = 0 then
      (q_gn h0 a0 11 5).bind fun v4 =>
      (q_gn h0 v4 0 1).bind fun v5 =>
      (q_gn h0 v5 10 3).bind fun v6 =>
      (q_ai h0 v6 1 a1).bind fun v7 =>
      some v7
    else
    if a2 = 1 then
      (q_gn h0 a0 11 5).bind fun v8 =>
      (q_gn h0 v8 0 0).bind fun v9 =>
      (q_gn h0 v9 4 5).bind fun v10 =>
      (q_ai h0 v10 1 a1).bind fun v11 =>
      some v11
    else
    if a2 = 2 then
      (q_gn h0 a0 11 5).bind fun v12 =>
      (q_gn h0 v12 0 1).bind fun v13 =>
      (q_gn h0 v13 10 5).bind fun v14 =>
      (q_ai h0 v14 1 a1).bind fun v15 =>
      some v15
    else
    if a2 = 3 then
      (q_gn h0 a0 11 5).bind fun v16 =>
      (q_gn h0 v16 0 0).bind fun v17 =>
      (q_gn h0 v17 4 7).bind fun v18 =>
      (q_ai h0 v18 1 a1).bind fun v19 =>
      some v19
    else
    if a2 = 4 then
      (q_gn h0 a0 11 5).bind fun v20 =>
      (q_gn h0 v20 0 1).bind fun v21 =>
      (q_gn h0 v21 10 4).bind fun v22 =>
      (q_ai h0 v22 1 a1).bind fun v23 =>
      some v23
    else
    if a2 = 5 then
      (q_gn h0 a0 11 5).bind fun v24 =>
      (q_gn h0 v24 0 1).bind fun v25 =>
      (q_ca 10 h0 v25 (m_X10_stands h0 v25 a1)).bind fun r26 =>
      if r26 = 0 then
        some ((0 : Int32))
      else
        some ((1 : Int32))
    else
    if a2 = 6 then
      (q_gn h0 a0 11 5).bind fun v28 =>
      (q_gn h0 v28 0 1).bind fun v29 =>
      (q_gn h0 v29 10 6).bind fun v30 =>
      (q_ai h0 v30 1 a1).bind fun v31 =>
      some v31
    else
    some ((-1 : Int32))
set_option maxRecDepth 20000 in
set_option maxHeartbeats 1000000 in
theorem c_X11_puller (l : Launch) (base : Nat) (D : va_G) (tc : Nat → ClassId) (sz : Nat) (h0 : q_H) (a0 : Nat) (a1 : Int32) (a2 : Int32) {r : Int32} (hm : m_X11_puller h0 a0 a1 a2 = some r) : q_M l yX11_puller cX11_puller 3 (some .int) 2 41 0 0 base D tc [.ref a0, .int a1, .int a2] sz h0 (some (.int r)) sz h0 := by
  refine q_starti (by decide) (Nat.le_of_ble_eq_true rfl) (fun Γ B K => ?_)
  obtain ⟨C, Rm, -⟩ := B
  have C : q_C Γ cX11_puller RX11 := C
  show q_V Γ sz 0 0 h0 [(0, .ref a0), (1, .int a1), (2, .int a2)] [] 0
  unfold m_X11_puller at hm
  refine q_aload_n C (k4 := 0) 0 rfl (by decide +kernel) ?_
  refine q_getn C fl_11_50 hm (by decide +kernel) (fun v1 hm => ?_)
  refine q_iload_n C (k4 := 1) 1 rfl (by decide +kernel) ?_
  refine q_viP C Rm (As := [.int a1]) (rest := []) Y_X0_has Yv_X0_has ml_X11_132 (by decide) (by decide) hm (fun r9 e9 => c_X0_has _ _ _ _ _ _ _ _ e9) rfl rfl (Nat.le_of_ble_eq_true rfl) (by decide +kernel) (fun r2 hm z3 => ?_)
  refine q_if_ne C (off := 5) 13 hm (by decide +kernel) (by decide) (fun _ hm => ?_) (fun _ hm => ?_)
  · refine q_iload_n C (k4 := 2) 2 rfl (by decide +kernel) ?_
    by_cases c14_0 : a2 = 0
    · rw [if_pos c14_0] at hm
      refine q_tsIn C (dflt := 140) (lo := 0) (hi := 6) (offs := #[42, 55, 68, 81, 94, 107, 127]) (len := 42) (42) 56 (by decide +kernel) (by rw [c14_0]; decide) (by rw [c14_0]; decide) (by rw [c14_0]; decide) (by decide) ?_
      refine q_aload_n C (k4 := 0) 0 rfl (by decide +kernel) ?_
      refine q_getn C fl_11_50 hm (by decide +kernel) (fun v4 hm => ?_)
      refine q_getn C fl_11_103 hm (by decide +kernel) (fun v5 hm => ?_)
      refine q_getn C fl_11_135 hm (by decide +kernel) (fun v6 hm => ?_)
      refine q_iload_n C (k4 := 1) 1 rfl (by decide +kernel) ?_
      refine q_ir C hm (by decide +kernel) (fun v7 hm => ?_)
      exact q_riP hm K rfl (by decide +kernel)
    rw [if_neg c14_0] at hm
    by_cases c14_1 : a2 = 1
    · rw [if_pos c14_1] at hm
      refine q_tsIn C (dflt := 140) (lo := 0) (hi := 6) (offs := #[42, 55, 68, 81, 94, 107, 127]) (len := 42) (55) 69 (by decide +kernel) (by rw [c14_1]; decide) (by rw [c14_1]; decide) (by rw [c14_1]; decide) (by decide) ?_
      refine q_aload_n C (k4 := 0) 0 rfl (by decide +kernel) ?_
      refine q_getn C fl_11_50 hm (by decide +kernel) (fun v8 hm => ?_)
      refine q_getn C fl_11_99 hm (by decide +kernel) (fun v9 hm => ?_)
      refine q_getn C fl_11_139 hm (by decide +kernel) (fun v10 hm => ?_)
      refine q_iload_n C (k4 := 1) 1 rfl (by decide +kernel) ?_
      refine q_ir C hm (by decide +kernel) (fun v11 hm => ?_)
      exact q_riP hm K rfl (by decide +kernel)
    rw [if_neg c14_1] at hm
    by_cases c14_2 : a2 = 2
    · rw [if_pos c14_2] at hm
      refine q_tsIn C (dflt := 140) (lo := 0) (hi := 6) (offs := #[42, 55, 68, 81, 94, 107, 127]) (len := 42) (68) 82 (by decide +kernel) (by rw [c14_2]; decide) (by rw [c14_2]; decide) (by rw [c14_2]; decide) (by decide) ?_
      refine q_aload_n C (k4 := 0) 0 rfl (by decide +kernel) ?_
      refine q_getn C fl_11_50 hm (by decide +kernel) (fun v12 hm => ?_)
      refine q_getn C fl_11_103 hm (by decide +kernel) (fun v13 hm => ?_)
      refine q_getn C fl_11_142 hm (by decide +kernel) (fun v14 hm => ?_)
      refine q_iload_n C (k4 := 1) 1 rfl (by decide +kernel) ?_
      refine q_ir C hm (by decide +kernel) (fun v15 hm => ?_)
      exact q_riP hm K rfl (by decide +kernel)
    rw [if_neg c14_2] at hm
    by_cases c14_3 : a2 = 3
    · rw [if_pos c14_3] at hm
      refine q_tsIn C (dflt := 140) (lo := 0) (hi := 6) (offs := #[42, 55, 68, 81, 94, 107, 127]) (len := 42) (81) 95 (by decide +kernel) (by rw [c14_3]; decide) (by rw [c14_3]; decide) (by rw [c14_3]; decide) (by decide) ?_
      refine q_aload_n C (k4 := 0) 0 rfl (by decide +kernel) ?_
      refine q_getn C fl_11_50 hm (by decide +kernel) (fun v16 hm => ?_)
      refine q_getn C fl_11_99 hm (by decide +kernel) (fun v17 hm => ?_)
      refine q_getn C fl_11_145 hm (by decide +kernel) (fun v18 hm => ?_)
      refine q_iload_n C (k4 := 1) 1 rfl (by decide +kernel) ?_
      refine q_ir C hm (by decide +kernel) (fun v19 hm => ?_)
      exact q_riP hm K rfl (by decide +kernel)
    rw [if_neg c14_3] at hm
    by_cases c14_4 : a2 = 4
    · rw [if_pos c14_4] at hm
      refine q_tsIn C (dflt := 140) (lo := 0) (hi := 6) (offs := #[42, 55, 68, 81, 94, 107, 127]) (len := 42) (94) 108 (by decide +kernel) (by rw [c14_4]; decide) (by rw [c14_4]; decide) (by rw [c14_4]; decide) (by decide) ?_
      refine q_aload_n C (k4 := 0) 0 rfl (by decide +kernel) ?_
      refine q_getn C fl_11_50 hm (by decide +kernel) (fun v20 hm => ?_)
      refine q_getn C fl_11_103 hm (by decide +kernel) (fun v21 hm => ?_)
      refine q_getn C fl_11_148 hm (by decide +kernel) (fun v22 hm => ?_)
      refine q_iload_n C (k4 := 1) 1 rfl (by decide +kernel) ?_
      refine q_ir C hm (by decide +kernel) (fun v23 hm => ?_)
      exact q_riP hm K rfl (by decide +kernel)
    rw [if_neg c14_4] at hm
    by_cases c14_5 : a2 = 5
    · rw [if_pos c14_5] at hm
      refine q_tsIn C (dflt := 140) (lo := 0) (hi := 6) (offs := #[42, 55, 68, 81, 94, 107, 127]) (len := 42) (107) 121 (by decide +kernel) (by rw [c14_5]; decide) (by rw [c14_5]; decide) (by rw [c14_5]; decide) (by decide) ?_
      refine q_aload_n C (k4 := 0) 0 rfl (by decide +kernel) ?_
      refine q_getn C fl_11_50 hm (by decide +kernel) (fun v24 hm => ?_)
      refine q_getn C fl_11_103 hm (by decide +kernel) (fun v25 hm => ?_)
      refine q_iload_n C (k4 := 1) 1 rfl (by decide +kernel) ?_
      refine q_viP C Rm (As := [.int a1]) (rest := []) Y_X10_stands Yv_X10_stands ml_X11_151 (by decide) (by decide) hm (fun r9 e9 => c_X10_stands _ _ _ _ _ _ _ _ e9) rfl rfl (Nat.le_of_ble_eq_true rfl) (by decide +kernel) (fun r26 hm z27 => ?_)
      refine q_if_eq C (off := 7) 139 hm (by decide +kernel) (by decide) (fun _ hm => ?_) (fun _ hm => ?_)
      · refine q_iconst C (n := 0) (v := 0) (by decide) (by decide +kernel) ?_
        exact q_riP hm K rfl (by decide +kernel)
      · refine q_iconst C (n := 1) (v := 1) (by decide) (by decide +kernel) ?_
        refine q_goto C (off := 4) 140 (by decide +kernel) (by decide) ?_
        exact q_riP hm K rfl (by decide +kernel)
    rw [if_neg c14_5] at hm
    by_cases c14_6 : a2 = 6
    · rw [if_pos c14_6] at hm
      refine q_tsIn C (dflt := 140) (lo := 0) (hi := 6) (offs := #[42, 55, 68, 81, 94, 107, 127]) (len := 42) (127) 141 (by decide +kernel) (by rw [c14_6]; decide) (by rw [c14_6]; decide) (by rw [c14_6]; decide) (by decide) ?_
      refine q_aload_n C (k4 := 0) 0 rfl (by decide +kernel) ?_
      refine q_getn C fl_11_50 hm (by decide +kernel) (fun v28 hm => ?_)
      refine q_getn C fl_11_103 hm (by decide +kernel) (fun v29 hm => ?_)
      refine q_getn C fl_11_154 hm (by decide +kernel) (fun v30 hm => ?_)
      refine q_iload_n C (k4 := 1) 1 rfl (by decide +kernel) ?_
      refine q_ir C hm (by decide +kernel) (fun v31 hm => ?_)
      exact q_riP hm K rfl (by decide +kernel)
    rw [if_neg c14_6] at hm
    have nc14_0 := lv_neT c14_0 (show (0 : Int32).toInt = 0 from by decide)
    have nc14_1 := lv_neT c14_1 (show (1 : Int32).toInt = 1 from by decide)
    have nc14_2 := lv_neT c14_2 (show (2 : Int32).toInt = 2 from by decide)
    have nc14_3 := lv_neT c14_3 (show (3 : Int32).toInt = 3 from by decide)
    have nc14_4 := lv_neT c14_4 (show (4 : Int32).toInt = 4 from by decide)
    have nc14_5 := lv_neT c14_5 (show (5 : Int32).toInt = 5 from by decide)
    have nc14_6 := lv_neT c14_6 (show (6 : Int32).toInt = 6 from by decide)
    refine q_tsOut C (dflt := 140) (lo := 0) (hi := 6) (offs := #[42, 55, 68, 81, 94, 107, 127]) (len := 42) 154 (by decide +kernel) (by omega) (by decide) ?_
    refine q_iconst C (n := (-1)) (v := (-1)) (by decide) (by decide +kernel) ?_
    exact q_riP hm K rfl (by decide +kernel)
  · refine q_iconst C (n := (-1)) (v := (-1)) (by decide) (by decide +kernel) ?_
    exact q_riP hm K rfl (by decide +kernel)
def m_X11_ribbon (h0 : q_H) (a0 : Nat) : Option Int32 :=
  (q_gn h0 a0 11 5).bind fun v1 =>
  (q_go h0 v1 0 0).bind fun v2 =>
  if v2 = none then
    some ((-1 : Int32))
  else
    (q_gn h0 a0 11 5).bind fun v3 =>
    (q_gn h0 v3 0 1).bind fun v4 =>
    (q_gi h0 v4 10 0).bind fun v5 =>
    some ((v5 + (100 : Int32)))
set_option maxRecDepth 20000 in
set_option maxHeartbeats 1000000 in
theorem c_X11_ribbon (l : Launch) (base : Nat) (D : va_G) (tc : Nat → ClassId) (sz : Nat) (h0 : q_H) (a0 : Nat) {r : Int32} (hm : m_X11_ribbon h0 a0 = some r) : q_M l yX11_ribbon cX11_ribbon 1 (some .int) 0 0 0 0 base D tc [.ref a0] sz h0 (some (.int r)) sz h0 := by
  refine q_starti (by decide) (Nat.le_of_ble_eq_true rfl) (fun Γ B K => ?_)
  obtain ⟨C, Rm, -⟩ := B
  have C : q_C Γ cX11_ribbon RX11 := C
  show q_V Γ sz 0 0 h0 [(0, .ref a0)] [] 0
  unfold m_X11_ribbon at hm
  refine q_aload_n C (k4 := 0) 0 rfl (by decide +kernel) ?_
  refine q_getn C fl_11_50 hm (by decide +kernel) (fun v1 hm => ?_)
  refine q_geto C fl_11_99 hm (by decide +kernel) (fun v2 hm => ?_)
  refine q_ifnonnull C (off := 7) 14 hm (by decide +kernel) (by decide) (fun _ hm => ?_) (fun _ hm => ?_)
  · refine q_aload_n C (k4 := 0) 0 rfl (by decide +kernel) ?_
    refine q_getn C fl_11_50 hm (by decide +kernel) (fun v3 hm => ?_)
    refine q_getn C fl_11_103 hm (by decide +kernel) (fun v4 hm => ?_)
    refine q_geti C fl_11_157 hm (by decide +kernel) (fun v5 hm => ?_)
    refine q_bipush C (n := 100) (v := 100) (by decide) (by decide +kernel) ?_
    refine q_iadd C (by decide +kernel) ?_
    exact q_riP hm K rfl (by decide +kernel)
  · refine q_iconst C (n := (-1)) (v := (-1)) (by decide) (by decide +kernel) ?_
    refine q_goto C (off := 16) 27 (by decide +kernel) (by decide) ?_
    exact q_riP hm K rfl (by decide +kernel)
def m_X11_heave (h : q_H) (a0 : Nat) : Option (Int32 × q_H) :=
  (q_gn h a0 11 5).bind fun v1 =>
  (q_go h v1 0 0).bind fun v2 =>
  if v2 = none then
    some ((-1 : Int32), h)
  else
    (q_gn h a0 11 5).bind fun v3 =>
    (q_gn h v3 0 1).bind fun v4 =>
    (q_gi h v4 10 1).bind fun v5 =>
    if v5 < (999 : Int32) then
      (q_gn h a0 11 6).bind fun v6 =>
      (q_gn h a0 11 5).bind fun v7 =>
      (q_gn h v7 0 1).bind fun v8 =>
      (q_ca 2 h v6 (m_X2_keep h v6 v8)).bind fun h10 =>
      (q_gn h10 a0 11 8).bind fun v11 =>
      (q_gn h10 a0 11 5).bind fun v12 =>
      (q_gn h10 v12 0 0).bind fun v13 =>
      (q_gn h10 a0 11 9).bind fun v14 =>
      (q_ca 8 h10 v14 (m_X8_ruleInForce h10 v14)).bind fun r15 =>
      (q_ca 1 h10 v11 (m_X1_takeUp h10 v11 v13 r15)).bind fun h17 =>
      (q_gn h17 a0 11 8).bind fun v18 =>
      (q_gn h17 a0 11 5).bind fun v19 =>
      (q_gn h17 v19 0 1).bind fun v20 =>
      (q_ca 1 h17 v18 (m_X1_heaveOn h17 v18 v20 ((1 : Int32)))).bind fun h22 =>
      (q_gn h22 a0 11 5).bind fun v23 =>
      (q_gn h22 v23 0 1).bind fun v24 =>
      (q_gi h22 v24 10 0).bind fun v25 =>
      some ((v25 + (100 : Int32)), h22)
    else
      some ((-1 : Int32), h)
set_option maxRecDepth 20000 in
set_option maxHeartbeats 1000000 in
theorem c_X11_heave (l : Launch) (base : Nat) (D : va_G) (tc : Nat → ClassId) (sz : Nat) (h : q_H) (a0 : Nat) {r : Int32} {h' : q_H} (hm : m_X11_heave h a0 = some (r, h')) : q_M l yX11_heave cX11_heave 1 (some .int) 5 131 0 0 base D tc [.ref a0] sz h (some (.int r)) sz h' := by
  refine q_starti (by decide) (Nat.le_of_ble_eq_true rfl) (fun Γ B K => ?_)
  obtain ⟨C, Rm, -⟩ := B
  have C : q_C Γ cX11_heave RX11 := C
  show q_V Γ sz 0 0 h [(0, .ref a0)] [] 0
  unfold m_X11_heave at hm
  refine q_aload_n C (k4 := 0) 0 rfl (by decide +kernel) ?_
  refine q_getn C fl_11_50 hm (by decide +kernel) (fun v1 hm => ?_)
  refine q_geto C fl_11_99 hm (by decide +kernel) (fun v2 hm => ?_)
  refine q_ifnull C (off := 19) 26 hm (by decide +kernel) (by decide) (fun _ hm => ?_) (fun _ hm => ?_)
  · refine q_iconst C (n := (-1)) (v := (-1)) (by decide) (by decide +kernel) ?_
    exact q_riS hm K rfl (by decide +kernel)
  · refine q_aload_n C (k4 := 0) 0 rfl (by decide +kernel) ?_
    refine q_getn C fl_11_50 hm (by decide +kernel) (fun v3 hm => ?_)
    refine q_getn C fl_11_103 hm (by decide +kernel) (fun v4 hm => ?_)
    refine q_geti C fl_11_160 hm (by decide +kernel) (fun v5 hm => ?_)
    refine q_sipush C (n := 999) (v := 999) (by decide) (by decide +kernel) ?_
    refine q_icmp_lt C (off := 5) 28 hm (by decide +kernel) (by decide) (fun _ hm => ?_) (fun _ hm => ?_)
    · refine q_aload_n C (k4 := 0) 0 rfl (by decide +kernel) ?_
      refine q_getn C fl_11_57 hm (by decide +kernel) (fun v6 hm => ?_)
      refine q_aload_n C (k4 := 0) 0 rfl (by decide +kernel) ?_
      refine q_getn C fl_11_50 hm (by decide +kernel) (fun v7 hm => ?_)
      refine q_getn C fl_11_103 hm (by decide +kernel) (fun v8 hm => ?_)
      refine q_vvS C Rm (As := [.ref v8]) (rest := []) Y_X2_keep Yv_X2_keep ml_X11_163 (by decide) (by decide) hm (fun h10 e9 => c_X2_keep _ _ _ _ _ _ _ _ e9) rfl rfl (Nat.le_of_ble_eq_true rfl) (by decide +kernel) (fun h10 hm => ?_)
      refine q_aload_n C (k4 := 0) 0 rfl (by decide +kernel) ?_
      refine q_getn C fl_11_68 hm (by decide +kernel) (fun v11 hm => ?_)
      refine q_aload_n C (k4 := 0) 0 rfl (by decide +kernel) ?_
      refine q_getn C fl_11_50 hm (by decide +kernel) (fun v12 hm => ?_)
      refine q_getn C fl_11_99 hm (by decide +kernel) (fun v13 hm => ?_)
      refine q_aload_n C (k4 := 0) 0 rfl (by decide +kernel) ?_
      refine q_getn C fl_11_77 hm (by decide +kernel) (fun v14 hm => ?_)
      refine q_voP C Rm (As := []) (rest := [.ref v13, .ref v11]) Y_X8_ruleInForce Yv_X8_ruleInForce ml_X11_167 (by decide) (by decide) hm (fun r9 e9 => c_X8_ruleInForce _ _ _ _ _ _ _ e9) rfl rfl (Nat.le_of_ble_eq_true rfl) (by decide +kernel) (fun r15 hm => ?_)
      refine q_vvS C Rm (As := [.ref v13, va_rf r15]) (rest := []) Y_X1_takeUp Yv_X1_takeUp ml_X11_170 (by decide) (by decide) hm (fun h17 e9 => c_X1_takeUp _ _ _ _ _ _ _ _ _ e9) rfl rfl (Nat.le_of_ble_eq_true rfl) (by decide +kernel) (fun h17 hm => ?_)
      refine q_aload_n C (k4 := 0) 0 rfl (by decide +kernel) ?_
      refine q_getn C fl_11_68 hm (by decide +kernel) (fun v18 hm => ?_)
      refine q_aload_n C (k4 := 0) 0 rfl (by decide +kernel) ?_
      refine q_getn C fl_11_50 hm (by decide +kernel) (fun v19 hm => ?_)
      refine q_getn C fl_11_103 hm (by decide +kernel) (fun v20 hm => ?_)
      refine q_iconst C (n := 1) (v := 1) (by decide) (by decide +kernel) ?_
      refine q_vvS C Rm (As := [.ref v20, .int ((1 : Int32))]) (rest := []) Y_X1_heaveOn Yv_X1_heaveOn ml_X11_174 (by decide) (by decide) hm (fun h22 e9 => c_X1_heaveOn _ _ _ _ _ _ _ _ _ e9) rfl rfl (Nat.le_of_ble_eq_true rfl) (by decide +kernel) (fun h22 hm => ?_)
      refine q_aload_n C (k4 := 0) 0 rfl (by decide +kernel) ?_
      refine q_getn C fl_11_50 hm (by decide +kernel) (fun v23 hm => ?_)
      refine q_getn C fl_11_103 hm (by decide +kernel) (fun v24 hm => ?_)
      refine q_geti C fl_11_157 hm (by decide +kernel) (fun v25 hm => ?_)
      refine q_bipush C (n := 100) (v := 100) (by decide) (by decide +kernel) ?_
      refine q_iadd C (by decide +kernel) ?_
      exact q_riS hm K rfl (by decide +kernel)
    · refine q_iconst C (n := (-1)) (v := (-1)) (by decide) (by decide +kernel) ?_
      exact q_riS hm K rfl (by decide +kernel)
def m_X11_send (h : q_H) (a0 : Nat) (a1 : Int32) : Option (Int32 × q_H) :=
  (q_gn h a0 11 5).bind fun v1 =>
  (q_ca 0 h v1 (m_X0_has h v1 a1)).bind fun r2 =>
  if r2 = 0 then
    some ((-1 : Int32), h)
  else
    (q_gn h a0 11 6).bind fun v4 =>
    (q_gn h a0 11 5).bind fun v5 =>
    (q_gn h v5 0 1).bind fun v6 =>
    (q_ca 2 h v4 (m_X2_keep h v4 v6)).bind fun h8 =>
    (q_gn h8 a0 11 5).bind fun v9 =>
    (q_gn h8 v9 0 1).bind fun v10 =>
    (q_gn h8 a0 11 5).bind fun v11 =>
    (q_gn h8 v11 0 0).bind fun v12 =>
    (q_gi h8 v12 4 3).bind fun v13 =>
    (q_ca 10 h8 v10 (m_X10_crossOver h8 v10 a1 v13)).bind fun h15 =>
    (q_gn h15 a0 11 5).bind fun v16 =>
    (q_gn h15 v16 0 1).bind fun v17 =>
    (q_gn h15 v17 10 3).bind fun v18 =>
    (q_ai h15 v18 1 a1).bind fun v19 =>
    some (v19, h15)
set_option maxRecDepth 20000 in
set_option maxHeartbeats 1000000 in
theorem c_X11_send (l : Launch) (base : Nat) (D : va_G) (tc : Nat → ClassId) (sz : Nat) (h : q_H) (a0 : Nat) (a1 : Int32) {r : Int32} {h' : q_H} (hm : m_X11_send h a0 a1 = some (r, h')) : q_M l yX11_send cX11_send 2 (some .int) 5 122 0 0 base D tc [.ref a0, .int a1] sz h (some (.int r)) sz h' := by
  refine q_starti (by decide) (Nat.le_of_ble_eq_true rfl) (fun Γ B K => ?_)
  obtain ⟨C, Rm, -⟩ := B
  have C : q_C Γ cX11_send RX11 := C
  show q_V Γ sz 0 0 h [(0, .ref a0), (1, .int a1)] [] 0
  unfold m_X11_send at hm
  refine q_aload_n C (k4 := 0) 0 rfl (by decide +kernel) ?_
  refine q_getn C fl_11_50 hm (by decide +kernel) (fun v1 hm => ?_)
  refine q_iload_n C (k4 := 1) 1 rfl (by decide +kernel) ?_
  refine q_viP C Rm (As := [.int a1]) (rest := []) Y_X0_has Yv_X0_has ml_X11_132 (by decide) (by decide) hm (fun r9 e9 => c_X0_has _ _ _ _ _ _ _ _ e9) rfl rfl (Nat.le_of_ble_eq_true rfl) (by decide +kernel) (fun r2 hm z3 => ?_)
  refine q_if_ne C (off := 5) 13 hm (by decide +kernel) (by decide) (fun _ hm => ?_) (fun _ hm => ?_)
  · refine q_aload_n C (k4 := 0) 0 rfl (by decide +kernel) ?_
    refine q_getn C fl_11_57 hm (by decide +kernel) (fun v4 hm => ?_)
    refine q_aload_n C (k4 := 0) 0 rfl (by decide +kernel) ?_
    refine q_getn C fl_11_50 hm (by decide +kernel) (fun v5 hm => ?_)
    refine q_getn C fl_11_103 hm (by decide +kernel) (fun v6 hm => ?_)
    refine q_vvS C Rm (As := [.ref v6]) (rest := []) Y_X2_keep Yv_X2_keep ml_X11_163 (by decide) (by decide) hm (fun h8 e9 => c_X2_keep _ _ _ _ _ _ _ _ e9) rfl rfl (Nat.le_of_ble_eq_true rfl) (by decide +kernel) (fun h8 hm => ?_)
    refine q_aload_n C (k4 := 0) 0 rfl (by decide +kernel) ?_
    refine q_getn C fl_11_50 hm (by decide +kernel) (fun v9 hm => ?_)
    refine q_getn C fl_11_103 hm (by decide +kernel) (fun v10 hm => ?_)
    refine q_iload_n C (k4 := 1) 1 rfl (by decide +kernel) ?_
    refine q_aload_n C (k4 := 0) 0 rfl (by decide +kernel) ?_
    refine q_getn C fl_11_50 hm (by decide +kernel) (fun v11 hm => ?_)
    refine q_getn C fl_11_99 hm (by decide +kernel) (fun v12 hm => ?_)
    refine q_geti C fl_11_119 hm (by decide +kernel) (fun v13 hm => ?_)
    refine q_vvS C Rm (As := [.int a1, .int v13]) (rest := []) Y_X10_crossOver Yv_X10_crossOver ml_X11_178 (by decide) (by decide) hm (fun h15 e9 => c_X10_crossOver _ _ _ _ _ _ _ _ _ e9) rfl rfl (Nat.le_of_ble_eq_true rfl) (by decide +kernel) (fun h15 hm => ?_)
    refine q_aload_n C (k4 := 0) 0 rfl (by decide +kernel) ?_
    refine q_getn C fl_11_50 hm (by decide +kernel) (fun v16 hm => ?_)
    refine q_getn C fl_11_103 hm (by decide +kernel) (fun v17 hm => ?_)
    refine q_getn C fl_11_135 hm (by decide +kernel) (fun v18 hm => ?_)
    refine q_iload_n C (k4 := 1) 1 rfl (by decide +kernel) ?_
    refine q_ir C hm (by decide +kernel) (fun v19 hm => ?_)
    exact q_riS hm K rfl (by decide +kernel)
  · refine q_iconst C (n := (-1)) (v := (-1)) (by decide) (by decide +kernel) ?_
    exact q_riS hm K rfl (by decide +kernel)
def m_X11_front (h : q_H) (a0 : Nat) (a1 : Int32) : Option (Int32 × q_H) :=
  (q_gn h a0 11 5).bind fun v1 =>
  (q_ca 0 h v1 (m_X0_has h v1 a1)).bind fun r2 =>
  if r2 = 0 then
    some ((-1 : Int32), h)
  else
    (q_gn h a0 11 5).bind fun v4 =>
    (q_gn h v4 0 1).bind fun v5 =>
    (q_gn h v5 10 4).bind fun v6 =>
    (q_ai h v6 1 a1).bind fun v7 =>
    if v7 = 0 then
      some ((-1 : Int32), h)
    else
      (q_gn h a0 11 6).bind fun v8 =>
      (q_gn h a0 11 5).bind fun v9 =>
      (q_gn h v9 0 1).bind fun v10 =>
      (q_ca 2 h v8 (m_X2_keep h v8 v10)).bind fun h12 =>
      (q_gn h12 a0 11 5).bind fun v13 =>
      (q_gn h12 v13 0 1).bind fun v14 =>
      (q_gn h12 v14 10 4).bind fun v15 =>
      (q_ai h12 v15 1 a1).bind fun v16 =>
      (q_gn h12 a0 11 5).bind fun v17 =>
      (q_gn h12 v17 0 1).bind fun v18 =>
      (q_gn h12 a0 11 5).bind fun v19 =>
      (q_gn h12 v19 0 0).bind fun v20 =>
      (q_gi h12 v20 4 3).bind fun v21 =>
      (q_ca 10 h12 v18 (m_X10_stepToFront h12 v18 a1 v21)).bind fun h23 =>
      some (v16, h23)
set_option maxRecDepth 20000 in
set_option maxHeartbeats 1000000 in
theorem c_X11_front (l : Launch) (base : Nat) (D : va_G) (tc : Nat → ClassId) (sz : Nat) (h : q_H) (a0 : Nat) (a1 : Int32) {r : Int32} {h' : q_H} (hm : m_X11_front h a0 a1 = some (r, h')) : q_M l yX11_front cX11_front 3 (some .int) 5 122 0 0 base D tc [.ref a0, .int a1] sz h (some (.int r)) sz h' := by
  refine q_starti (by decide) (Nat.le_of_ble_eq_true rfl) (fun Γ B K => ?_)
  obtain ⟨C, Rm, -⟩ := B
  have C : q_C Γ cX11_front RX11 := C
  show q_V Γ sz 0 0 h [(0, .ref a0), (1, .int a1)] [] 0
  unfold m_X11_front at hm
  refine q_aload_n C (k4 := 0) 0 rfl (by decide +kernel) ?_
  refine q_getn C fl_11_50 hm (by decide +kernel) (fun v1 hm => ?_)
  refine q_iload_n C (k4 := 1) 1 rfl (by decide +kernel) ?_
  refine q_viP C Rm (As := [.int a1]) (rest := []) Y_X0_has Yv_X0_has ml_X11_132 (by decide) (by decide) hm (fun r9 e9 => c_X0_has _ _ _ _ _ _ _ _ e9) rfl rfl (Nat.le_of_ble_eq_true rfl) (by decide +kernel) (fun r2 hm z3 => ?_)
  refine q_if_eq C (off := 18) 26 hm (by decide +kernel) (by decide) (fun _ hm => ?_) (fun _ hm => ?_)
  · refine q_iconst C (n := (-1)) (v := (-1)) (by decide) (by decide +kernel) ?_
    exact q_riS hm K rfl (by decide +kernel)
  · refine q_aload_n C (k4 := 0) 0 rfl (by decide +kernel) ?_
    refine q_getn C fl_11_50 hm (by decide +kernel) (fun v4 hm => ?_)
    refine q_getn C fl_11_103 hm (by decide +kernel) (fun v5 hm => ?_)
    refine q_getn C fl_11_148 hm (by decide +kernel) (fun v6 hm => ?_)
    refine q_iload_n C (k4 := 1) 1 rfl (by decide +kernel) ?_
    refine q_ir C hm (by decide +kernel) (fun v7 hm => ?_)
    refine q_if_ne C (off := 5) 28 hm (by decide +kernel) (by decide) (fun _ hm => ?_) (fun _ hm => ?_)
    · refine q_aload_n C (k4 := 0) 0 rfl (by decide +kernel) ?_
      refine q_getn C fl_11_57 hm (by decide +kernel) (fun v8 hm => ?_)
      refine q_aload_n C (k4 := 0) 0 rfl (by decide +kernel) ?_
      refine q_getn C fl_11_50 hm (by decide +kernel) (fun v9 hm => ?_)
      refine q_getn C fl_11_103 hm (by decide +kernel) (fun v10 hm => ?_)
      refine q_vvS C Rm (As := [.ref v10]) (rest := []) Y_X2_keep Yv_X2_keep ml_X11_163 (by decide) (by decide) hm (fun h12 e9 => c_X2_keep _ _ _ _ _ _ _ _ e9) rfl rfl (Nat.le_of_ble_eq_true rfl) (by decide +kernel) (fun h12 hm => ?_)
      refine q_aload_n C (k4 := 0) 0 rfl (by decide +kernel) ?_
      refine q_getn C fl_11_50 hm (by decide +kernel) (fun v13 hm => ?_)
      refine q_getn C fl_11_103 hm (by decide +kernel) (fun v14 hm => ?_)
      refine q_getn C fl_11_148 hm (by decide +kernel) (fun v15 hm => ?_)
      refine q_iload_n C (k4 := 1) 1 rfl (by decide +kernel) ?_
      refine q_ir C hm (by decide +kernel) (fun v16 hm => ?_)
      refine q_istore_n C Rm.1 (k4 := 2) (i := 2) rfl (lv' := [(2, .int v16), (0, .ref a0), (1, .int a1)]) rfl (by decide) (by decide +kernel) ?_
      refine q_aload_n C (k4 := 0) 1 rfl (by decide +kernel) ?_
      refine q_getn C fl_11_50 hm (by decide +kernel) (fun v17 hm => ?_)
      refine q_getn C fl_11_103 hm (by decide +kernel) (fun v18 hm => ?_)
      refine q_iload_n C (k4 := 1) 2 rfl (by decide +kernel) ?_
      refine q_aload_n C (k4 := 0) 1 rfl (by decide +kernel) ?_
      refine q_getn C fl_11_50 hm (by decide +kernel) (fun v19 hm => ?_)
      refine q_getn C fl_11_99 hm (by decide +kernel) (fun v20 hm => ?_)
      refine q_geti C fl_11_119 hm (by decide +kernel) (fun v21 hm => ?_)
      refine q_vvS C Rm (As := [.int a1, .int v21]) (rest := []) Y_X10_stepToFront Yv_X10_stepToFront ml_X11_182 (by decide) (by decide) hm (fun h23 e9 => c_X10_stepToFront _ _ _ _ _ _ _ _ _ e9) rfl rfl (Nat.le_of_ble_eq_true rfl) (by decide +kernel) (fun h23 hm => ?_)
      refine q_iload_n C (k4 := 2) 0 rfl (by decide +kernel) ?_
      exact q_riS hm K rfl (by decide +kernel)
    · refine q_iconst C (n := (-1)) (v := (-1)) (by decide) (by decide +kernel) ?_
      exact q_riS hm K rfl (by decide +kernel)
def m_X11_breath (h : q_H) (a0 : Nat) (a1 : Int32) (a2 : Int32) : Option (Int32 × q_H) :=
  (q_gn h a0 11 5).bind fun v1 =>
  (q_ca 0 h v1 (m_X0_has h v1 a1)).bind fun r2 =>
  if r2 = 0 then
    some ((-1 : Int32), h)
  else
    if a2 < (1 : Int32) then
      some ((-1 : Int32), h)
    else
      if a2 ≤ (9 : Int32) then
        (q_gn h a0 11 6).bind fun v4 =>
        (q_gn h a0 11 5).bind fun v5 =>
        (q_gn h v5 0 1).bind fun v6 =>
        (q_ca 2 h v4 (m_X2_keep h v4 v6)).bind fun h8 =>
        (q_gn h8 a0 11 5).bind fun v9 =>
        (q_gn h8 v9 0 1).bind fun v10 =>
        (q_gn h8 v10 10 5).bind fun v11 =>
        (q_gn h8 a0 11 5).bind fun v12 =>
        (q_gn h8 v12 0 1).bind fun v13 =>
        (q_gn h8 v13 10 5).bind fun v14 =>
        (q_ai h8 v14 1 a1).bind fun v15 =>
        (q_si h8 v11 1 a1 ((if (v15 + a2) < (60 : Int32) then (v15 + a2) else (60 : Int32)))).bind fun h16 =>
        (q_gn h16 a0 11 5).bind fun v17 =>
        (q_gn h16 v17 0 1).bind fun v18 =>
        (q_gn h16 v18 10 5).bind fun v19 =>
        (q_ai h16 v19 1 a1).bind fun v20 =>
        some (v20, h16)
      else
        some ((-1 : Int32), h)
set_option maxRecDepth 20000 in
set_option maxHeartbeats 1000000 in
theorem c_X11_breath (l : Launch) (base : Nat) (D : va_G) (tc : Nat → ClassId) (sz : Nat) (h : q_H) (a0 : Nat) (a1 : Int32) (a2 : Int32) {r : Int32} {h' : q_H} (hm : m_X11_breath h a0 a1 a2 = some (r, h')) : q_M l yX11_breath cX11_breath 3 (some .int) 5 122 0 0 base D tc [.ref a0, .int a1, .int a2] sz h (some (.int r)) sz h' := by
  refine q_starti (by decide) (Nat.le_of_ble_eq_true rfl) (fun Γ B K => ?_)
  obtain ⟨C, Rm, -⟩ := B
  have C : q_C Γ cX11_breath RX11 := C
  show q_V Γ sz 0 0 h [(0, .ref a0), (1, .int a1), (2, .int a2)] [] 0
  unfold m_X11_breath at hm
  refine q_aload_n C (k4 := 0) 0 rfl (by decide +kernel) ?_
  refine q_getn C fl_11_50 hm (by decide +kernel) (fun v1 hm => ?_)
  refine q_iload_n C (k4 := 1) 1 rfl (by decide +kernel) ?_
  refine q_viP C Rm (As := [.int a1]) (rest := []) Y_X0_has Yv_X0_has ml_X11_132 (by decide) (by decide) hm (fun r9 e9 => c_X0_has _ _ _ _ _ _ _ _ e9) rfl rfl (Nat.le_of_ble_eq_true rfl) (by decide +kernel) (fun r2 hm z3 => ?_)
  refine q_if_eq C (off := 14) 22 hm (by decide +kernel) (by decide) (fun _ hm => ?_) (fun _ hm => ?_)
  · refine q_iconst C (n := (-1)) (v := (-1)) (by decide) (by decide +kernel) ?_
    exact q_riS hm K rfl (by decide +kernel)
  · refine q_iload_n C (k4 := 2) 2 rfl (by decide +kernel) ?_
    refine q_iconst C (n := 1) (v := 1) (by decide) (by decide +kernel) ?_
    refine q_icmp_lt C (off := 9) 22 hm (by decide +kernel) (by decide) (fun _ hm => ?_) (fun _ hm => ?_)
    · refine q_iconst C (n := (-1)) (v := (-1)) (by decide) (by decide +kernel) ?_
      exact q_riS hm K rfl (by decide +kernel)
    · refine q_iload_n C (k4 := 2) 2 rfl (by decide +kernel) ?_
      refine q_bipush C (n := 9) (v := 9) (by decide) (by decide +kernel) ?_
      refine q_icmp_le C (off := 5) 24 hm (by decide +kernel) (by decide) (fun _ hm => ?_) (fun _ hm => ?_)
      · refine q_aload_n C (k4 := 0) 0 rfl (by decide +kernel) ?_
        refine q_getn C fl_11_57 hm (by decide +kernel) (fun v4 hm => ?_)
        refine q_aload_n C (k4 := 0) 0 rfl (by decide +kernel) ?_
        refine q_getn C fl_11_50 hm (by decide +kernel) (fun v5 hm => ?_)
        refine q_getn C fl_11_103 hm (by decide +kernel) (fun v6 hm => ?_)
        refine q_vvS C Rm (As := [.ref v6]) (rest := []) Y_X2_keep Yv_X2_keep ml_X11_163 (by decide) (by decide) hm (fun h8 e9 => c_X2_keep _ _ _ _ _ _ _ _ e9) rfl rfl (Nat.le_of_ble_eq_true rfl) (by decide +kernel) (fun h8 hm => ?_)
        refine q_aload_n C (k4 := 0) 0 rfl (by decide +kernel) ?_
        refine q_getn C fl_11_50 hm (by decide +kernel) (fun v9 hm => ?_)
        refine q_getn C fl_11_103 hm (by decide +kernel) (fun v10 hm => ?_)
        refine q_getn C fl_11_142 hm (by decide +kernel) (fun v11 hm => ?_)
        refine q_iload_n C (k4 := 1) 1 rfl (by decide +kernel) ?_
        refine q_bipush C (n := 60) (v := 60) (by decide) (by decide +kernel) ?_
        refine q_aload_n C (k4 := 0) 0 rfl (by decide +kernel) ?_
        refine q_getn C fl_11_50 hm (by decide +kernel) (fun v12 hm => ?_)
        refine q_getn C fl_11_103 hm (by decide +kernel) (fun v13 hm => ?_)
        refine q_getn C fl_11_142 hm (by decide +kernel) (fun v14 hm => ?_)
        refine q_iload_n C (k4 := 1) 1 rfl (by decide +kernel) ?_
        refine q_ir C hm (by decide +kernel) (fun v15 hm => ?_)
        refine q_iload_n C (k4 := 2) 2 rfl (by decide +kernel) ?_
        refine q_iadd C (by decide +kernel) ?_
        refine q_mmin C Rm ml_X11_185 (by decide) (Nat.le_of_ble_eq_true rfl) ⟨Nat.le_refl _, Nat.le_refl _⟩ (by decide +kernel) ?_
        refine q_iw C hm (by decide +kernel) (fun h16 hm => ?_)
        refine q_aload_n C (k4 := 0) 0 rfl (by decide +kernel) ?_
        refine q_getn C fl_11_50 hm (by decide +kernel) (fun v17 hm => ?_)
        refine q_getn C fl_11_103 hm (by decide +kernel) (fun v18 hm => ?_)
        refine q_getn C fl_11_142 hm (by decide +kernel) (fun v19 hm => ?_)
        refine q_iload_n C (k4 := 1) 1 rfl (by decide +kernel) ?_
        refine q_ir C hm (by decide +kernel) (fun v20 hm => ?_)
        exact q_riS hm K rfl (by decide +kernel)
      · refine q_iconst C (n := (-1)) (v := (-1)) (by decide) (by decide +kernel) ?_
        exact q_riS hm K rfl (by decide +kernel)
def m_X11_set (h : q_H) (a0 : Nat) (a1 : Int32) : Option (Int32 × q_H) :=
  (q_gn h a0 11 5).bind fun v1 =>
  (q_go h v1 0 0).bind fun v2 =>
  if v2 = none then
    some ((-1 : Int32), h)
  else
    (q_gn h a0 11 5).bind fun v3 =>
    (q_gn h v3 0 1).bind fun v4 =>
    (q_gi h v4 10 0).bind fun v5 =>
    (q_gn h a0 11 5).bind fun v6 =>
    (q_gn h v6 0 0).bind fun v7 =>
    (q_gi h v7 4 0).bind fun v8 =>
    (q_gn h a0 11 5).bind fun v9 =>
    (q_gn h v9 0 0).bind fun v10 =>
    (q_gi h v10 4 0).bind fun v11 =>
    if a1 < ((101 : Int32) - v8) then
      some ((-1 : Int32), h)
    else
      if ((99 : Int32) + v11) < a1 then
        some ((-1 : Int32), h)
      else
        if a1 = (v5 + (100 : Int32)) then
          some ((-1 : Int32), h)
        else
          (q_gn h a0 11 6).bind fun v12 =>
          (q_gn h a0 11 5).bind fun v13 =>
          (q_gn h v13 0 1).bind fun v14 =>
          (q_ca 2 h v12 (m_X2_keep h v12 v14)).bind fun h16 =>
          (q_gn h16 a0 11 5).bind fun v17 =>
          (q_gn h16 v17 0 1).bind fun v18 =>
          (q_pf h16 v18 10 0 (.int ((a1 - (100 : Int32))))).bind fun h19 =>
          some ((v5 + (100 : Int32)), h19)
set_option maxRecDepth 20000 in
set_option maxHeartbeats 1000000 in
theorem c_X11_set (l : Launch) (base : Nat) (D : va_G) (tc : Nat → ClassId) (sz : Nat) (h : q_H) (a0 : Nat) (a1 : Int32) {r : Int32} {h' : q_H} (hm : m_X11_set h a0 a1 = some (r, h')) : q_M l yX11_set cX11_set 5 (some .int) 5 122 0 0 base D tc [.ref a0, .int a1] sz h (some (.int r)) sz h' := by
  refine q_starti (by decide) (Nat.le_of_ble_eq_true rfl) (fun Γ B K => ?_)
  obtain ⟨C, Rm, -⟩ := B
  have C : q_C Γ cX11_set RX11 := C
  show q_V Γ sz 0 0 h [(0, .ref a0), (1, .int a1)] [] 0
  unfold m_X11_set at hm
  refine q_aload_n C (k4 := 0) 0 rfl (by decide +kernel) ?_
  refine q_getn C fl_11_50 hm (by decide +kernel) (fun v1 hm => ?_)
  refine q_geto C fl_11_99 hm (by decide +kernel) (fun v2 hm => ?_)
  refine q_ifnonnull C (off := 5) 12 hm (by decide +kernel) (by decide) (fun _ hm => ?_) (fun _ hm => ?_)
  · refine q_aload_n C (k4 := 0) 0 rfl (by decide +kernel) ?_
    refine q_getn C fl_11_50 hm (by decide +kernel) (fun v3 hm => ?_)
    refine q_getn C fl_11_103 hm (by decide +kernel) (fun v4 hm => ?_)
    refine q_geti C fl_11_157 hm (by decide +kernel) (fun v5 hm => ?_)
    refine q_bipush C (n := 100) (v := 100) (by decide) (by decide +kernel) ?_
    refine q_iadd C (by decide +kernel) ?_
    refine q_istore_n C Rm.1 (k4 := 2) (i := 2) rfl (lv' := [(2, .int ((v5 + (100 : Int32)))), (0, .ref a0), (1, .int a1)]) rfl (by decide) (by decide +kernel) ?_
    refine q_bipush C (n := 101) (v := 101) (by decide) (by decide +kernel) ?_
    refine q_aload_n C (k4 := 0) 1 rfl (by decide +kernel) ?_
    refine q_getn C fl_11_50 hm (by decide +kernel) (fun v6 hm => ?_)
    refine q_getn C fl_11_99 hm (by decide +kernel) (fun v7 hm => ?_)
    refine q_geti C fl_11_191 hm (by decide +kernel) (fun v8 hm => ?_)
    refine q_isub C (by decide +kernel) ?_
    refine q_istore_n C Rm.1 (k4 := 3) (i := 3) rfl (lv' := [(3, .int (((101 : Int32) - v8))), (2, .int ((v5 + (100 : Int32)))), (0, .ref a0), (1, .int a1)]) rfl (by decide) (by decide +kernel) ?_
    refine q_bipush C (n := 99) (v := 99) (by decide) (by decide +kernel) ?_
    refine q_aload_n C (k4 := 0) 2 rfl (by decide +kernel) ?_
    refine q_getn C fl_11_50 hm (by decide +kernel) (fun v9 hm => ?_)
    refine q_getn C fl_11_99 hm (by decide +kernel) (fun v10 hm => ?_)
    refine q_geti C fl_11_191 hm (by decide +kernel) (fun v11 hm => ?_)
    refine q_iadd C (by decide +kernel) ?_
    refine q_istore C Rm.1 (i := 4) (lv' := [(4, .int (((99 : Int32) + v11))), (3, .int (((101 : Int32) - v8))), (2, .int ((v5 + (100 : Int32)))), (0, .ref a0), (1, .int a1)]) rfl (by decide) (by decide +kernel) ?_
    refine q_iload_n C (k4 := 1) 4 rfl (by decide +kernel) ?_
    refine q_iload_n C (k4 := 3) 1 rfl (by decide +kernel) ?_
    refine q_icmp_lt C (off := 14) 71 hm (by decide +kernel) (by decide) (fun _ hm => ?_) (fun _ hm => ?_)
    · refine q_iconst C (n := (-1)) (v := (-1)) (by decide) (by decide +kernel) ?_
      exact q_riS hm K rfl (by decide +kernel)
    · refine q_iload_n C (k4 := 1) 4 rfl (by decide +kernel) ?_
      refine q_iload C (i := 4) 0 rfl (by decide +kernel) ?_
      refine q_icmp_gt C (off := 8) 71 hm (by decide +kernel) (by decide) (fun _ hm => ?_) (fun _ hm => ?_)
      · refine q_iconst C (n := (-1)) (v := (-1)) (by decide) (by decide +kernel) ?_
        exact q_riS hm K rfl (by decide +kernel)
      · refine q_iload_n C (k4 := 1) 4 rfl (by decide +kernel) ?_
        refine q_iload_n C (k4 := 2) 2 rfl (by decide +kernel) ?_
        refine q_icmp_ne C (off := 5) 73 hm (by decide +kernel) (by decide) (fun _ hm => ?_) (fun _ hm => ?_)
        · refine q_aload_n C (k4 := 0) 3 rfl (by decide +kernel) ?_
          refine q_getn C fl_11_57 hm (by decide +kernel) (fun v12 hm => ?_)
          refine q_aload_n C (k4 := 0) 3 rfl (by decide +kernel) ?_
          refine q_getn C fl_11_50 hm (by decide +kernel) (fun v13 hm => ?_)
          refine q_getn C fl_11_103 hm (by decide +kernel) (fun v14 hm => ?_)
          refine q_vvS C Rm (As := [.ref v14]) (rest := []) Y_X2_keep Yv_X2_keep ml_X11_163 (by decide) (by decide) hm (fun h16 e9 => c_X2_keep _ _ _ _ _ _ _ _ e9) rfl rfl (Nat.le_of_ble_eq_true rfl) (by decide +kernel) (fun h16 hm => ?_)
          refine q_aload_n C (k4 := 0) 3 rfl (by decide +kernel) ?_
          refine q_getn C fl_11_50 hm (by decide +kernel) (fun v17 hm => ?_)
          refine q_getn C fl_11_103 hm (by decide +kernel) (fun v18 hm => ?_)
          refine q_iload_n C (k4 := 1) 4 rfl (by decide +kernel) ?_
          refine q_bipush C (n := 100) (v := 100) (by decide) (by decide +kernel) ?_
          refine q_isub C (by decide +kernel) ?_
          refine q_putf C fl_11_157 hm rfl rfl (by decide +kernel) (fun h19 hm => ?_)
          refine q_iload_n C (k4 := 2) 2 rfl (by decide +kernel) ?_
          exact q_riS hm K rfl (by decide +kernel)
        · refine q_iconst C (n := (-1)) (v := (-1)) (by decide) (by decide +kernel) ?_
          exact q_riS hm K rfl (by decide +kernel)
  · refine q_iconst C (n := (-1)) (v := (-1)) (by decide) (by decide +kernel) ?_
    exact q_riS hm K rfl (by decide +kernel)
def m_X11_undo (h : q_H) (a0 : Nat) : Option (Int32 × q_H) :=
  (q_gn h a0 11 6).bind fun v1 =>
  (q_gi h v1 2 2).bind fun v2 =>
  if v2 = 0 then
    some ((-1 : Int32), h)
  else
    (q_gn h a0 11 6).bind fun v3 =>
    (q_gn h a0 11 5).bind fun v4 =>
    (q_gn h v4 0 1).bind fun v5 =>
    (q_ca 2 h v3 (m_X2_giveBack h v3 v5)).bind fun h7 =>
    (q_gn h7 a0 11 6).bind fun v8 =>
    (q_gi h7 v8 2 2).bind fun v9 =>
    some (v9, h7)
set_option maxRecDepth 20000 in
set_option maxHeartbeats 1000000 in
theorem c_X11_undo (l : Launch) (base : Nat) (D : va_G) (tc : Nat → ClassId) (sz : Nat) (h : q_H) (a0 : Nat) {r : Int32} {h' : q_H} (hm : m_X11_undo h a0 = some (r, h')) : q_M l yX11_undo cX11_undo 1 (some .int) 5 122 0 0 base D tc [.ref a0] sz h (some (.int r)) sz h' := by
  refine q_starti (by decide) (Nat.le_of_ble_eq_true rfl) (fun Γ B K => ?_)
  obtain ⟨C, Rm, -⟩ := B
  have C : q_C Γ cX11_undo RX11 := C
  show q_V Γ sz 0 0 h [(0, .ref a0)] [] 0
  unfold m_X11_undo at hm
  refine q_aload_n C (k4 := 0) 0 rfl (by decide +kernel) ?_
  refine q_getn C fl_11_57 hm (by decide +kernel) (fun v1 hm => ?_)
  refine q_geti C fl_11_194 hm (by decide +kernel) (fun v2 hm => ?_)
  refine q_if_ne C (off := 5) 12 hm (by decide +kernel) (by decide) (fun _ hm => ?_) (fun _ hm => ?_)
  · refine q_aload_n C (k4 := 0) 0 rfl (by decide +kernel) ?_
    refine q_getn C fl_11_57 hm (by decide +kernel) (fun v3 hm => ?_)
    refine q_aload_n C (k4 := 0) 0 rfl (by decide +kernel) ?_
    refine q_getn C fl_11_50 hm (by decide +kernel) (fun v4 hm => ?_)
    refine q_getn C fl_11_103 hm (by decide +kernel) (fun v5 hm => ?_)
    refine q_vvS C Rm (As := [.ref v5]) (rest := []) Y_X2_giveBack Yv_X2_giveBack ml_X11_197 (by decide) (by decide) hm (fun h7 e9 => c_X2_giveBack _ _ _ _ _ _ _ _ e9) rfl rfl (Nat.le_of_ble_eq_true rfl) (by decide +kernel) (fun h7 hm => ?_)
    refine q_aload_n C (k4 := 0) 0 rfl (by decide +kernel) ?_
    refine q_getn C fl_11_57 hm (by decide +kernel) (fun v8 hm => ?_)
    refine q_geti C fl_11_194 hm (by decide +kernel) (fun v9 hm => ?_)
    exact q_riS hm K rfl (by decide +kernel)
  · refine q_iconst C (n := (-1)) (v := (-1)) (by decide) (by decide +kernel) ?_
    exact q_riS hm K rfl (by decide +kernel)
def m_X11_fair (h0 : q_H) (a0 : Nat) (a1 : Int32) : Option Int32 :=
  (q_gn h0 a0 11 5).bind fun v1 =>
  (q_go h0 v1 0 0).bind fun v2 =>
  if v2 = none then
    some ((-1 : Int32))
  else
    if a1 < 0 then
      some ((-1 : Int32))
    else
      if a1 ≤ (1 : Int32) then
        (q_gn h0 a0 11 5).bind fun v3 =>
        (q_gn h0 v3 0 0).bind fun v4 =>
        (q_ca 4 h0 v4 (m_X4_fairestSet h0 v4)).bind fun r5 =>
        if a1 = 0 then
          (q_gn h0 a0 11 5).bind fun v7 =>
          (q_gn h0 v7 0 0).bind fun v8 =>
          (q_ca 4 h0 v8 (m_X4_differenceBy h0 v8 r5)).bind fun r9 =>
          some r9
        else
          some r5
      else
        some ((-1 : Int32))
set_option maxRecDepth 20000 in
set_option maxHeartbeats 1000000 in
theorem c_X11_fair (l : Launch) (base : Nat) (D : va_G) (tc : Nat → ClassId) (sz : Nat) (h0 : q_H) (a0 : Nat) (a1 : Int32) {r : Int32} (hm : m_X11_fair h0 a0 a1 = some r) : q_M l yX11_fair cX11_fair 3 (some .int) 5 125 0 0 base D tc [.ref a0, .int a1] sz h0 (some (.int r)) sz h0 := by
  refine q_starti (by decide) (Nat.le_of_ble_eq_true rfl) (fun Γ B K => ?_)
  obtain ⟨C, Rm, -⟩ := B
  have C : q_C Γ cX11_fair RX11 := C
  show q_V Γ sz 0 0 h0 [(0, .ref a0), (1, .int a1)] [] 0
  unfold m_X11_fair at hm
  refine q_aload_n C (k4 := 0) 0 rfl (by decide +kernel) ?_
  refine q_getn C fl_11_50 hm (by decide +kernel) (fun v1 hm => ?_)
  refine q_geto C fl_11_99 hm (by decide +kernel) (fun v2 hm => ?_)
  refine q_ifnull C (off := 12) 19 hm (by decide +kernel) (by decide) (fun _ hm => ?_) (fun _ hm => ?_)
  · refine q_iconst C (n := (-1)) (v := (-1)) (by decide) (by decide +kernel) ?_
    exact q_riP hm K rfl (by decide +kernel)
  · refine q_iload_n C (k4 := 1) 1 rfl (by decide +kernel) ?_
    refine q_if_lt C (off := 8) 19 hm (by decide +kernel) (by decide) (fun _ hm => ?_) (fun _ hm => ?_)
    · refine q_iconst C (n := (-1)) (v := (-1)) (by decide) (by decide +kernel) ?_
      exact q_riP hm K rfl (by decide +kernel)
    · refine q_iload_n C (k4 := 1) 1 rfl (by decide +kernel) ?_
      refine q_iconst C (n := 1) (v := 1) (by decide) (by decide +kernel) ?_
      refine q_icmp_le C (off := 5) 21 hm (by decide +kernel) (by decide) (fun _ hm => ?_) (fun _ hm => ?_)
      · refine q_aload_n C (k4 := 0) 0 rfl (by decide +kernel) ?_
        refine q_getn C fl_11_50 hm (by decide +kernel) (fun v3 hm => ?_)
        refine q_getn C fl_11_99 hm (by decide +kernel) (fun v4 hm => ?_)
        refine q_viP C Rm (As := []) (rest := []) Y_X4_fairestSet Yv_X4_fairestSet ml_X11_200 (by decide) (by decide) hm (fun r9 e9 => c_X4_fairestSet _ _ _ _ _ _ _ e9) rfl rfl (Nat.le_of_ble_eq_true rfl) (by decide +kernel) (fun r5 hm z6 => ?_)
        refine q_istore_n C Rm.1 (k4 := 2) (i := 2) rfl (lv' := [(2, .int r5), (0, .ref a0), (1, .int a1)]) rfl (by decide) (by decide +kernel) ?_
        refine q_iload_n C (k4 := 1) 2 rfl (by decide +kernel) ?_
        refine q_if_ne C (off := 17) 50 hm (by decide +kernel) (by decide) (fun _ hm => ?_) (fun _ hm => ?_)
        · refine q_iload_n C (k4 := 2) 0 rfl (by decide +kernel) ?_
          exact q_riP hm K rfl (by decide +kernel)
        · refine q_aload_n C (k4 := 0) 1 rfl (by decide +kernel) ?_
          refine q_getn C fl_11_50 hm (by decide +kernel) (fun v7 hm => ?_)
          refine q_getn C fl_11_99 hm (by decide +kernel) (fun v8 hm => ?_)
          refine q_iload_n C (k4 := 2) 0 rfl (by decide +kernel) ?_
          refine q_viP C Rm (As := [.int r5]) (rest := []) Y_X4_differenceBy Yv_X4_differenceBy ml_X11_203 (by decide) (by decide) hm (fun r9 e9 => c_X4_differenceBy _ _ _ _ _ _ _ _ e9) rfl rfl (Nat.le_of_ble_eq_true rfl) (by decide +kernel) (fun r9 hm z10 => ?_)
          refine q_goto C (off := 4) 51 (by decide +kernel) (by decide) ?_
          exact q_riP hm K rfl (by decide +kernel)
      · refine q_iconst C (n := (-1)) (v := (-1)) (by decide) (by decide +kernel) ?_
        exact q_riP hm K rfl (by decide +kernel)
def m_X11_fewest (h0 : q_H) (a0 : Nat) (a1 : Int32) : Option Int32 :=
  (q_gn h0 a0 11 5).bind fun v1 =>
  (q_go h0 v1 0 0).bind fun v2 =>
  if v2 = none then
    some ((-1 : Int32))
  else
    if a1 < 0 then
      some ((-1 : Int32))
    else
      if a1 ≤ (1 : Int32) then
        (q_gn h0 a0 11 5).bind fun v3 =>
        (q_gn h0 v3 0 0).bind fun v4 =>
        (q_gi h0 v4 4 3).bind fun v5 =>
        if v5 = 0 then
          some ((-2 : Int32))
        else
          (q_gn h0 a0 11 5).bind fun v6 =>
          (q_gn h0 v6 0 0).bind fun v7 =>
          (q_ca 4 h0 v7 (m_X4_smallestSet h0 v7)).bind fun r8 =>
          if a1 = 0 then
            (m_J6_bitCount_0f7a4 r8).bind fun r10 =>
            some r10
          else
            some r8
      else
        some ((-1 : Int32))
set_option maxRecDepth 20000 in
set_option maxHeartbeats 1000000 in
theorem c_X11_fewest (l : Launch) (base : Nat) (D : va_G) (tc : Nat → ClassId) (sz : Nat) (h0 : q_H) (a0 : Nat) (a1 : Int32) {r : Int32} (hm : m_X11_fewest h0 a0 a1 = some r) : q_M l yX11_fewest cX11_fewest 3 (some .int) 3 66 0 0 base D tc [.ref a0, .int a1] sz h0 (some (.int r)) sz h0 := by
  refine q_starti (by decide) (Nat.le_of_ble_eq_true rfl) (fun Γ B K => ?_)
  obtain ⟨C, Rm, -⟩ := B
  have C : q_C Γ cX11_fewest RX11 := C
  show q_V Γ sz 0 0 h0 [(0, .ref a0), (1, .int a1)] [] 0
  unfold m_X11_fewest at hm
  refine q_aload_n C (k4 := 0) 0 rfl (by decide +kernel) ?_
  refine q_getn C fl_11_50 hm (by decide +kernel) (fun v1 hm => ?_)
  refine q_geto C fl_11_99 hm (by decide +kernel) (fun v2 hm => ?_)
  refine q_ifnull C (off := 12) 19 hm (by decide +kernel) (by decide) (fun _ hm => ?_) (fun _ hm => ?_)
  · refine q_iconst C (n := (-1)) (v := (-1)) (by decide) (by decide +kernel) ?_
    exact q_riP hm K rfl (by decide +kernel)
  · refine q_iload_n C (k4 := 1) 1 rfl (by decide +kernel) ?_
    refine q_if_lt C (off := 8) 19 hm (by decide +kernel) (by decide) (fun _ hm => ?_) (fun _ hm => ?_)
    · refine q_iconst C (n := (-1)) (v := (-1)) (by decide) (by decide +kernel) ?_
      exact q_riP hm K rfl (by decide +kernel)
    · refine q_iload_n C (k4 := 1) 1 rfl (by decide +kernel) ?_
      refine q_iconst C (n := 1) (v := 1) (by decide) (by decide +kernel) ?_
      refine q_icmp_le C (off := 5) 21 hm (by decide +kernel) (by decide) (fun _ hm => ?_) (fun _ hm => ?_)
      · refine q_aload_n C (k4 := 0) 0 rfl (by decide +kernel) ?_
        refine q_getn C fl_11_50 hm (by decide +kernel) (fun v3 hm => ?_)
        refine q_getn C fl_11_99 hm (by decide +kernel) (fun v4 hm => ?_)
        refine q_geti C fl_11_119 hm (by decide +kernel) (fun v5 hm => ?_)
        refine q_if_ne C (off := 6) 37 hm (by decide +kernel) (by decide) (fun _ hm => ?_) (fun _ hm => ?_)
        · refine q_aload_n C (k4 := 0) 0 rfl (by decide +kernel) ?_
          refine q_getn C fl_11_50 hm (by decide +kernel) (fun v6 hm => ?_)
          refine q_getn C fl_11_99 hm (by decide +kernel) (fun v7 hm => ?_)
          refine q_viP C Rm (As := []) (rest := []) Y_X4_smallestSet Yv_X4_smallestSet ml_X11_211 (by decide) (by decide) hm (fun r9 e9 => c_X4_smallestSet _ _ _ _ _ _ _ e9) rfl rfl (Nat.le_of_ble_eq_true rfl) (by decide +kernel) (fun r8 hm z9 => ?_)
          refine q_istore_n C Rm.1 (k4 := 2) (i := 2) rfl (lv' := [(2, .int r8), (0, .ref a0), (1, .int a1)]) rfl (by decide) (by decide +kernel) ?_
          refine q_iload_n C (k4 := 1) 2 rfl (by decide +kernel) ?_
          refine q_if_ne C (off := 10) 59 hm (by decide +kernel) (by decide) (fun _ hm => ?_) (fun _ hm => ?_)
          · refine q_iload_n C (k4 := 2) 0 rfl (by decide +kernel) ?_
            exact q_riP hm K rfl (by decide +kernel)
          · refine q_iload_n C (k4 := 2) 0 rfl (by decide +kernel) ?_
            refine q_siP C Rm (As := [.int r8]) (rest := []) Y_J6_bitCount_0f7a4 Ys_J6_bitCount_0f7a4 ml_X11_214 (by decide) (by decide) hm (fun r9 e9 => c_J6_bitCount_0f7a4 _ _ _ _ _ _ _ e9) rfl rfl (Nat.le_of_ble_eq_true rfl) (by decide +kernel) (fun r10 hm z11 => ?_)
            refine q_goto C (off := 4) 60 (by decide +kernel) (by decide) ?_
            exact q_riP hm K rfl (by decide +kernel)
        · refine q_bipush C (n := (-2)) (v := (-2)) (by decide) (by decide +kernel) ?_
          exact q_riP hm K rfl (by decide +kernel)
      · refine q_iconst C (n := (-1)) (v := (-1)) (by decide) (by decide +kernel) ?_
        exact q_riP hm K rfl (by decide +kernel)
def m_X11_needed (h0 : q_H) (a0 : Nat) : Option Int32 :=
  (q_gn h0 a0 11 5).bind fun v1 =>
  (q_go h0 v1 0 0).bind fun v2 =>
  if v2 = none then
    some ((-1 : Int32))
  else
    (q_gn h0 a0 11 5).bind fun v3 =>
    (q_gn h0 v3 0 0).bind fun v4 =>
    (q_ca 4 h0 v4 (m_X4_neededSet h0 v4)).bind fun r5 =>
    some r5
set_option maxRecDepth 20000 in
set_option maxHeartbeats 1000000 in
theorem c_X11_needed (l : Launch) (base : Nat) (D : va_G) (tc : Nat → ClassId) (sz : Nat) (h0 : q_H) (a0 : Nat) {r : Int32} (hm : m_X11_needed h0 a0 = some r) : q_M l yX11_needed cX11_needed 1 (some .int) 3 66 0 0 base D tc [.ref a0] sz h0 (some (.int r)) sz h0 := by
  refine q_starti (by decide) (Nat.le_of_ble_eq_true rfl) (fun Γ B K => ?_)
  obtain ⟨C, Rm, -⟩ := B
  have C : q_C Γ cX11_needed RX11 := C
  show q_V Γ sz 0 0 h0 [(0, .ref a0)] [] 0
  unfold m_X11_needed at hm
  refine q_aload_n C (k4 := 0) 0 rfl (by decide +kernel) ?_
  refine q_getn C fl_11_50 hm (by decide +kernel) (fun v1 hm => ?_)
  refine q_geto C fl_11_99 hm (by decide +kernel) (fun v2 hm => ?_)
  refine q_ifnonnull C (off := 7) 14 hm (by decide +kernel) (by decide) (fun _ hm => ?_) (fun _ hm => ?_)
  · refine q_aload_n C (k4 := 0) 0 rfl (by decide +kernel) ?_
    refine q_getn C fl_11_50 hm (by decide +kernel) (fun v3 hm => ?_)
    refine q_getn C fl_11_99 hm (by decide +kernel) (fun v4 hm => ?_)
    refine q_viP C Rm (As := []) (rest := []) Y_X4_neededSet Yv_X4_neededSet ml_X11_219 (by decide) (by decide) hm (fun r9 e9 => c_X4_neededSet _ _ _ _ _ _ _ e9) rfl rfl (Nat.le_of_ble_eq_true rfl) (by decide +kernel) (fun r5 hm z6 => ?_)
    exact q_riP hm K rfl (by decide +kernel)
  · refine q_iconst C (n := (-1)) (v := (-1)) (by decide) (by decide +kernel) ?_
    refine q_goto C (off := 13) 24 (by decide +kernel) (by decide) ?_
    exact q_riP hm K rfl (by decide +kernel)
def m_X11_ahead_49  (h : q_H) (x0 : Nat) (x1 : Int32) (x2 : Int32) (x3 : Int32) : Option (Int32 × q_H) :=
  (q_gn h x0 11 9).bind fun v6 =>
  (q_ca 8 h v6 (m_X8_lookAhead h v6 x1 x2 x3)).bind fun (r7, h8) =>
  some (r7, h8)
set_option maxRecDepth 20000 in
set_option maxHeartbeats 1000000 in
theorem v_X11_ahead_49 {Γ : q_G} {sz : Nat} {r : Int32} {h' : q_H} (C : q_C Γ cX11_ahead RX11) (Rm : q_Rm Γ 4 6 154 0 0)  (K : narrow .int (.int r) = .int r → q_K Γ cX11_ahead .ireturn sz h' 0 0 [.int r])  : ∀ (h : q_H) (x0 : Nat) (x1 : Int32) (x2 : Int32) (x3 : Int32), m_X11_ahead_49 h x0 x1 x2 x3 = some (r, h') → q_V Γ sz 0 0 h [(0, .ref x0), (1, .int x1), (2, .int x2), (3, .int x3)] [] 49 := by
  intro h x0 x1 x2 x3 hm
  unfold m_X11_ahead_49 at hm
  refine q_aload_n C (k4 := 0) 0 rfl (by decide +kernel) ?_
  refine q_getn C fl_11_77 hm (by decide +kernel) (fun v6 hm => ?_)
  refine q_iload_n C (k4 := 1) 1 rfl (by decide +kernel) ?_
  refine q_iload_n C (k4 := 2) 2 rfl (by decide +kernel) ?_
  refine q_iload_n C (k4 := 3) 3 rfl (by decide +kernel) ?_
  refine q_viS C Rm (As := [.int x1, .int x2, .int x3]) (rest := []) Y_X8_lookAhead Yv_X8_lookAhead ml_X11_222 (by decide) (by decide) hm (fun r7 h8 e9 => c_X8_lookAhead _ _ _ _ _ _ _ _ _ _ e9) rfl rfl (Nat.le_of_ble_eq_true rfl) (by decide +kernel) (fun r7 h8 hm z9 => ?_)
  exact q_riS hm K rfl (by decide +kernel)
def m_X11_ahead (h : q_H) (a0 : Nat) (a1 : Int32) (a2 : Int32) (a3 : Int32) : Option (Int32 × q_H) :=
  (q_gn h a0 11 5).bind fun v1 =>
  (q_go h v1 0 0).bind fun v2 =>
  if v2 = none then
    some ((-1 : Int32), h)
  else
    if a2 < 0 then
      some ((-1 : Int32), h)
    else
      if a2 ≤ (100 : Int32) then
        if a3 < 0 then
          some ((-1 : Int32), h)
        else
          if (2 : Int32) < a3 then
            some ((-1 : Int32), h)
          else
            if a3 = (1 : Int32) then
              (q_gn h a0 11 5).bind fun v3 =>
              (q_ca 0 h v3 (m_X0_has h v3 a1)).bind fun r4 =>
              if r4 = 0 then
                some ((-1 : Int32), h)
              else
                m_X11_ahead_49 h a0 a1 a2 a3
            else
              m_X11_ahead_49 h a0 a1 a2 a3
      else
        some ((-1 : Int32), h)
set_option maxRecDepth 20000 in
set_option maxHeartbeats 1000000 in
theorem c_X11_ahead (l : Launch) (base : Nat) (D : va_G) (tc : Nat → ClassId) (sz : Nat) (h : q_H) (a0 : Nat) (a1 : Int32) (a2 : Int32) (a3 : Int32) {r : Int32} {h' : q_H} (hm : m_X11_ahead h a0 a1 a2 a3 = some (r, h')) : q_M l yX11_ahead cX11_ahead 4 (some .int) 6 154 0 0 base D tc [.ref a0, .int a1, .int a2, .int a3] sz h (some (.int r)) sz h' := by
  refine q_starti (by decide) (Nat.le_of_ble_eq_true rfl) (fun Γ B K => ?_)
  obtain ⟨C, Rm, -⟩ := B
  have C : q_C Γ cX11_ahead RX11 := C
  show q_V Γ sz 0 0 h [(0, .ref a0), (1, .int a1), (2, .int a2), (3, .int a3)] [] 0
  unfold m_X11_ahead at hm
  refine q_aload_n C (k4 := 0) 0 rfl (by decide +kernel) ?_
  refine q_getn C fl_11_50 hm (by decide +kernel) (fun v1 hm => ?_)
  refine q_geto C fl_11_99 hm (by decide +kernel) (fun v2 hm => ?_)
  refine q_ifnull C (off := 13) 20 hm (by decide +kernel) (by decide) (fun _ hm => ?_) (fun _ hm => ?_)
  · refine q_iconst C (n := (-1)) (v := (-1)) (by decide) (by decide +kernel) ?_
    exact q_riS hm K rfl (by decide +kernel)
  · refine q_iload_n C (k4 := 2) 2 rfl (by decide +kernel) ?_
    refine q_if_lt C (off := 9) 20 hm (by decide +kernel) (by decide) (fun _ hm => ?_) (fun _ hm => ?_)
    · refine q_iconst C (n := (-1)) (v := (-1)) (by decide) (by decide +kernel) ?_
      exact q_riS hm K rfl (by decide +kernel)
    · refine q_iload_n C (k4 := 2) 2 rfl (by decide +kernel) ?_
      refine q_bipush C (n := 100) (v := 100) (by decide) (by decide +kernel) ?_
      refine q_icmp_le C (off := 5) 22 hm (by decide +kernel) (by decide) (fun _ hm => ?_) (fun _ hm => ?_)
      · refine q_iload_n C (k4 := 3) 3 rfl (by decide +kernel) ?_
        refine q_if_lt C (off := 24) 47 hm (by decide +kernel) (by decide) (fun _ hm => ?_) (fun _ hm => ?_)
        · refine q_iconst C (n := (-1)) (v := (-1)) (by decide) (by decide +kernel) ?_
          exact q_riS hm K rfl (by decide +kernel)
        · refine q_iload_n C (k4 := 3) 3 rfl (by decide +kernel) ?_
          refine q_iconst C (n := 2) (v := 2) (by decide) (by decide +kernel) ?_
          refine q_icmp_gt C (off := 19) 47 hm (by decide +kernel) (by decide) (fun _ hm => ?_) (fun _ hm => ?_)
          · refine q_iconst C (n := (-1)) (v := (-1)) (by decide) (by decide +kernel) ?_
            exact q_riS hm K rfl (by decide +kernel)
          · refine q_iload_n C (k4 := 3) 3 rfl (by decide +kernel) ?_
            refine q_iconst C (n := 1) (v := 1) (by decide) (by decide +kernel) ?_
            refine q_icmp_ne C (off := 16) 49 hm (by decide +kernel) (by decide) (fun _ hm => ?_) (fun _ hm => ?_)
            · exact v_X11_ahead_49 C Rm K _ _ _ _ _ hm
            · refine q_aload_n C (k4 := 0) 0 rfl (by decide +kernel) ?_
              refine q_getn C fl_11_50 hm (by decide +kernel) (fun v3 hm => ?_)
              refine q_iload_n C (k4 := 1) 1 rfl (by decide +kernel) ?_
              refine q_viP C Rm (As := [.int a1]) (rest := []) Y_X0_has Yv_X0_has ml_X11_132 (by decide) (by decide) hm (fun r9 e9 => c_X0_has _ _ _ _ _ _ _ _ e9) rfl rfl (Nat.le_of_ble_eq_true rfl) (by decide +kernel) (fun r4 hm z5 => ?_)
              refine q_if_ne C (off := 5) 49 hm (by decide +kernel) (by decide) (fun _ hm => ?_) (fun _ hm => ?_)
              · exact v_X11_ahead_49 C Rm K _ _ _ _ _ hm
              · refine q_iconst C (n := (-1)) (v := (-1)) (by decide) (by decide +kernel) ?_
                exact q_riS hm K rfl (by decide +kernel)
      · refine q_iconst C (n := (-1)) (v := (-1)) (by decide) (by decide +kernel) ?_
        exact q_riS hm K rfl (by decide +kernel)
def m_X11_over (h : q_H) (a0 : Nat) (a1 : Int32) : Option (Int32 × q_H) :=
  (q_gn h a0 11 5).bind fun v1 =>
  (q_go h v1 0 0).bind fun v2 =>
  if v2 = none then
    some ((-1 : Int32), h)
  else
    if a1 < 0 then
      some ((-1 : Int32), h)
    else
      if a1 ≤ (1 : Int32) then
        (q_gn h a0 11 9).bind fun v3 =>
        (q_ca 8 h v3 (m_X8_findEnd h v3 a1)).bind fun (r4, h5) =>
        some (r4, h5)
      else
        some ((-1 : Int32), h)
set_option maxRecDepth 20000 in
set_option maxHeartbeats 1000000 in
theorem c_X11_over (l : Launch) (base : Nat) (D : va_G) (tc : Nat → ClassId) (sz : Nat) (h : q_H) (a0 : Nat) (a1 : Int32) {r : Int32} {h' : q_H} (hm : m_X11_over h a0 a1 = some (r, h')) : q_M l yX11_over cX11_over 2 (some .int) 6 153 0 0 base D tc [.ref a0, .int a1] sz h (some (.int r)) sz h' := by
  refine q_starti (by decide) (Nat.le_of_ble_eq_true rfl) (fun Γ B K => ?_)
  obtain ⟨C, Rm, -⟩ := B
  have C : q_C Γ cX11_over RX11 := C
  show q_V Γ sz 0 0 h [(0, .ref a0), (1, .int a1)] [] 0
  unfold m_X11_over at hm
  refine q_aload_n C (k4 := 0) 0 rfl (by decide +kernel) ?_
  refine q_getn C fl_11_50 hm (by decide +kernel) (fun v1 hm => ?_)
  refine q_geto C fl_11_99 hm (by decide +kernel) (fun v2 hm => ?_)
  refine q_ifnull C (off := 12) 19 hm (by decide +kernel) (by decide) (fun _ hm => ?_) (fun _ hm => ?_)
  · refine q_iconst C (n := (-1)) (v := (-1)) (by decide) (by decide +kernel) ?_
    exact q_riS hm K rfl (by decide +kernel)
  · refine q_iload_n C (k4 := 1) 1 rfl (by decide +kernel) ?_
    refine q_if_lt C (off := 8) 19 hm (by decide +kernel) (by decide) (fun _ hm => ?_) (fun _ hm => ?_)
    · refine q_iconst C (n := (-1)) (v := (-1)) (by decide) (by decide +kernel) ?_
      exact q_riS hm K rfl (by decide +kernel)
    · refine q_iload_n C (k4 := 1) 1 rfl (by decide +kernel) ?_
      refine q_iconst C (n := 1) (v := 1) (by decide) (by decide +kernel) ?_
      refine q_icmp_le C (off := 5) 21 hm (by decide +kernel) (by decide) (fun _ hm => ?_) (fun _ hm => ?_)
      · refine q_aload_n C (k4 := 0) 0 rfl (by decide +kernel) ?_
        refine q_getn C fl_11_77 hm (by decide +kernel) (fun v3 hm => ?_)
        refine q_iload_n C (k4 := 1) 1 rfl (by decide +kernel) ?_
        refine q_viS C Rm (As := [.int a1]) (rest := []) Y_X8_findEnd Yv_X8_findEnd ml_X11_226 (by decide) (by decide) hm (fun r4 h5 e9 => c_X8_findEnd _ _ _ _ _ _ _ _ e9) rfl rfl (Nat.le_of_ble_eq_true rfl) (by decide +kernel) (fun r4 h5 hm z6 => ?_)
        exact q_riS hm K rfl (by decide +kernel)
      · refine q_iconst C (n := (-1)) (v := (-1)) (by decide) (by decide +kernel) ?_
        exact q_riS hm K rfl (by decide +kernel)
def m_X11_row (h : q_H) (a0 : Nat) (a1 : Int32) (a2 : Int32) (a3 : Int32) : Option (Int32 × q_H) :=
  (q_gn h a0 11 5).bind fun v1 =>
  (q_ca 0 h v1 (m_X0_has h v1 a1)).bind fun r2 =>
  if r2 = 0 then
    some ((-2 : Int32), h)
  else
    if a2 < (1 : Int32) then
      some ((-2 : Int32), h)
    else
      if (4 : Int32) < a2 then
        some ((-2 : Int32), h)
      else
        if a3 < 0 then
          some ((-2 : Int32), h)
        else
          if a3 ≤ (4 : Int32) then
            if a3 ≤ a2 then
              (q_gn h a0 11 9).bind fun v4 =>
              (q_ca 8 h v4 (m_X8_bestRow h v4 a1 a2 a3)).bind fun (r5, h6) =>
              some (r5, h6)
            else
              some ((-1 : Int32), h)
          else
            some ((-2 : Int32), h)
set_option maxRecDepth 20000 in
set_option maxHeartbeats 1000000 in
theorem c_X11_row (l : Launch) (base : Nat) (D : va_G) (tc : Nat → ClassId) (sz : Nat) (h : q_H) (a0 : Nat) (a1 : Int32) (a2 : Int32) (a3 : Int32) {r : Int32} {h' : q_H} (hm : m_X11_row h a0 a1 a2 a3 = some (r, h')) : q_M l yX11_row cX11_row 4 (some .int) 7 182 0 0 base D tc [.ref a0, .int a1, .int a2, .int a3] sz h (some (.int r)) sz h' := by
  refine q_starti (by decide) (Nat.le_of_ble_eq_true rfl) (fun Γ B K => ?_)
  obtain ⟨C, Rm, -⟩ := B
  have C : q_C Γ cX11_row RX11 := C
  show q_V Γ sz 0 0 h [(0, .ref a0), (1, .int a1), (2, .int a2), (3, .int a3)] [] 0
  unfold m_X11_row at hm
  refine q_aload_n C (k4 := 0) 0 rfl (by decide +kernel) ?_
  refine q_getn C fl_11_50 hm (by decide +kernel) (fun v1 hm => ?_)
  refine q_iload_n C (k4 := 1) 1 rfl (by decide +kernel) ?_
  refine q_viP C Rm (As := [.int a1]) (rest := []) Y_X0_has Yv_X0_has ml_X11_132 (by decide) (by decide) hm (fun r9 e9 => c_X0_has _ _ _ _ _ _ _ _ e9) rfl rfl (Nat.le_of_ble_eq_true rfl) (by decide +kernel) (fun r2 hm z3 => ?_)
  refine q_if_eq C (off := 22) 30 hm (by decide +kernel) (by decide) (fun _ hm => ?_) (fun _ hm => ?_)
  · refine q_bipush C (n := (-2)) (v := (-2)) (by decide) (by decide +kernel) ?_
    exact q_riS hm K rfl (by decide +kernel)
  · refine q_iload_n C (k4 := 2) 2 rfl (by decide +kernel) ?_
    refine q_iconst C (n := 1) (v := 1) (by decide) (by decide +kernel) ?_
    refine q_icmp_lt C (off := 17) 30 hm (by decide +kernel) (by decide) (fun _ hm => ?_) (fun _ hm => ?_)
    · refine q_bipush C (n := (-2)) (v := (-2)) (by decide) (by decide +kernel) ?_
      exact q_riS hm K rfl (by decide +kernel)
    · refine q_iload_n C (k4 := 2) 2 rfl (by decide +kernel) ?_
      refine q_iconst C (n := 4) (v := 4) (by decide) (by decide +kernel) ?_
      refine q_icmp_gt C (off := 12) 30 hm (by decide +kernel) (by decide) (fun _ hm => ?_) (fun _ hm => ?_)
      · refine q_bipush C (n := (-2)) (v := (-2)) (by decide) (by decide +kernel) ?_
        exact q_riS hm K rfl (by decide +kernel)
      · refine q_iload_n C (k4 := 3) 3 rfl (by decide +kernel) ?_
        refine q_if_lt C (off := 8) 30 hm (by decide +kernel) (by decide) (fun _ hm => ?_) (fun _ hm => ?_)
        · refine q_bipush C (n := (-2)) (v := (-2)) (by decide) (by decide +kernel) ?_
          exact q_riS hm K rfl (by decide +kernel)
        · refine q_iload_n C (k4 := 3) 3 rfl (by decide +kernel) ?_
          refine q_iconst C (n := 4) (v := 4) (by decide) (by decide +kernel) ?_
          refine q_icmp_le C (off := 6) 33 hm (by decide +kernel) (by decide) (fun _ hm => ?_) (fun _ hm => ?_)
          · refine q_iload_n C (k4 := 3) 3 rfl (by decide +kernel) ?_
            refine q_iload_n C (k4 := 2) 2 rfl (by decide +kernel) ?_
            refine q_icmp_le C (off := 7) 42 hm (by decide +kernel) (by decide) (fun _ hm => ?_) (fun _ hm => ?_)
            · refine q_aload_n C (k4 := 0) 0 rfl (by decide +kernel) ?_
              refine q_getn C fl_11_77 hm (by decide +kernel) (fun v4 hm => ?_)
              refine q_iload_n C (k4 := 1) 1 rfl (by decide +kernel) ?_
              refine q_iload_n C (k4 := 2) 2 rfl (by decide +kernel) ?_
              refine q_iload_n C (k4 := 3) 3 rfl (by decide +kernel) ?_
              refine q_viS C Rm (As := [.int a1, .int a2, .int a3]) (rest := []) Y_X8_bestRow Yv_X8_bestRow ml_X11_229 (by decide) (by decide) hm (fun r5 h6 e9 => c_X8_bestRow _ _ _ _ _ _ _ _ _ _ e9) rfl rfl (Nat.le_of_ble_eq_true rfl) (by decide +kernel) (fun r5 h6 hm z7 => ?_)
              exact q_riS hm K rfl (by decide +kernel)
            · refine q_iconst C (n := (-1)) (v := (-1)) (by decide) (by decide +kernel) ?_
              refine q_goto C (off := 13) 52 (by decide +kernel) (by decide) ?_
              exact q_riS hm K rfl (by decide +kernel)
          · refine q_bipush C (n := (-2)) (v := (-2)) (by decide) (by decide +kernel) ?_
            exact q_riS hm K rfl (by decide +kernel)
def m_X11_trade (h : q_H) (a0 : Nat) (a1 : Int32) (a2 : Int32) : Option (Int32 × q_H) :=
  (q_gn h a0 11 5).bind fun v1 =>
  (q_go h v1 0 0).bind fun v2 =>
  if v2 = none then
    some ((-2 : Int32), h)
  else
    if a1 < (1 : Int32) then
      some ((-2 : Int32), h)
    else
      if (40 : Int32) < a1 then
        some ((-2 : Int32), h)
      else
        if a2 < 0 then
          some ((-2 : Int32), h)
        else
          if a2 ≤ (2 : Int32) then
            (q_gn h a0 11 9).bind fun v3 =>
            (q_ca 8 h v3 (m_X8_bestTrade h v3 a1 a2)).bind fun (r4, h5) =>
            some (r4, h5)
          else
            some ((-2 : Int32), h)
set_option maxRecDepth 20000 in
set_option maxHeartbeats 1000000 in
theorem c_X11_trade (l : Launch) (base : Nat) (D : va_G) (tc : Nat → ClassId) (sz : Nat) (h : q_H) (a0 : Nat) (a1 : Int32) (a2 : Int32) {r : Int32} {h' : q_H} (hm : m_X11_trade h a0 a1 a2 = some (r, h')) : q_M l yX11_trade cX11_trade 3 (some .int) 7 183 0 0 base D tc [.ref a0, .int a1, .int a2] sz h (some (.int r)) sz h' := by
  refine q_starti (by decide) (Nat.le_of_ble_eq_true rfl) (fun Γ B K => ?_)
  obtain ⟨C, Rm, -⟩ := B
  have C : q_C Γ cX11_trade RX11 := C
  show q_V Γ sz 0 0 h [(0, .ref a0), (1, .int a1), (2, .int a2)] [] 0
  unfold m_X11_trade at hm
  refine q_aload_n C (k4 := 0) 0 rfl (by decide +kernel) ?_
  refine q_getn C fl_11_50 hm (by decide +kernel) (fun v1 hm => ?_)
  refine q_geto C fl_11_99 hm (by decide +kernel) (fun v2 hm => ?_)
  refine q_ifnull C (off := 23) 30 hm (by decide +kernel) (by decide) (fun _ hm => ?_) (fun _ hm => ?_)
  · refine q_bipush C (n := (-2)) (v := (-2)) (by decide) (by decide +kernel) ?_
    exact q_riS hm K rfl (by decide +kernel)
  · refine q_iload_n C (k4 := 1) 1 rfl (by decide +kernel) ?_
    refine q_iconst C (n := 1) (v := 1) (by decide) (by decide +kernel) ?_
    refine q_icmp_lt C (off := 18) 30 hm (by decide +kernel) (by decide) (fun _ hm => ?_) (fun _ hm => ?_)
    · refine q_bipush C (n := (-2)) (v := (-2)) (by decide) (by decide +kernel) ?_
      exact q_riS hm K rfl (by decide +kernel)
    · refine q_iload_n C (k4 := 1) 1 rfl (by decide +kernel) ?_
      refine q_bipush C (n := 40) (v := 40) (by decide) (by decide +kernel) ?_
      refine q_icmp_gt C (off := 12) 30 hm (by decide +kernel) (by decide) (fun _ hm => ?_) (fun _ hm => ?_)
      · refine q_bipush C (n := (-2)) (v := (-2)) (by decide) (by decide +kernel) ?_
        exact q_riS hm K rfl (by decide +kernel)
      · refine q_iload_n C (k4 := 2) 2 rfl (by decide +kernel) ?_
        refine q_if_lt C (off := 8) 30 hm (by decide +kernel) (by decide) (fun _ hm => ?_) (fun _ hm => ?_)
        · refine q_bipush C (n := (-2)) (v := (-2)) (by decide) (by decide +kernel) ?_
          exact q_riS hm K rfl (by decide +kernel)
        · refine q_iload_n C (k4 := 2) 2 rfl (by decide +kernel) ?_
          refine q_iconst C (n := 2) (v := 2) (by decide) (by decide +kernel) ?_
          refine q_icmp_le C (off := 6) 33 hm (by decide +kernel) (by decide) (fun _ hm => ?_) (fun _ hm => ?_)
          · refine q_aload_n C (k4 := 0) 0 rfl (by decide +kernel) ?_
            refine q_getn C fl_11_77 hm (by decide +kernel) (fun v3 hm => ?_)
            refine q_iload_n C (k4 := 1) 1 rfl (by decide +kernel) ?_
            refine q_iload_n C (k4 := 2) 2 rfl (by decide +kernel) ?_
            refine q_viS C Rm (As := [.int a1, .int a2]) (rest := []) Y_X8_bestTrade Yv_X8_bestTrade ml_X11_232 (by decide) (by decide) hm (fun r4 h5 e9 => c_X8_bestTrade _ _ _ _ _ _ _ _ _ e9) rfl rfl (Nat.le_of_ble_eq_true rfl) (by decide +kernel) (fun r4 h5 hm z6 => ?_)
            exact q_riS hm K rfl (by decide +kernel)
          · refine q_bipush C (n := (-2)) (v := (-2)) (by decide) (by decide +kernel) ?_
            exact q_riS hm K rfl (by decide +kernel)
def m_X11_out (h : q_H) (a0 : Nat) (a1 : Int32) (a2 : Int32) : Option (Int32 × q_H) :=
  (q_gn h a0 11 5).bind fun v1 =>
  (q_go h v1 0 0).bind fun v2 =>
  if v2 = none then
    some ((-2 : Int32), h)
  else
    if a1 < (1 : Int32) then
      some ((-2 : Int32), h)
    else
      if (40 : Int32) < a1 then
        some ((-2 : Int32), h)
      else
        if a2 < 0 then
          some ((-2 : Int32), h)
        else
          if a2 ≤ (1 : Int32) then
            (q_gn h a0 11 9).bind fun v3 =>
            (q_ca 8 h v3 (m_X8_bestIdler h v3 a1 a2)).bind fun (r4, h5) =>
            some (r4, h5)
          else
            some ((-2 : Int32), h)
set_option maxRecDepth 20000 in
set_option maxHeartbeats 1000000 in
theorem c_X11_out (l : Launch) (base : Nat) (D : va_G) (tc : Nat → ClassId) (sz : Nat) (h : q_H) (a0 : Nat) (a1 : Int32) (a2 : Int32) {r : Int32} {h' : q_H} (hm : m_X11_out h a0 a1 a2 = some (r, h')) : q_M l yX11_out cX11_out 3 (some .int) 6 157 0 0 base D tc [.ref a0, .int a1, .int a2] sz h (some (.int r)) sz h' := by
  refine q_starti (by decide) (Nat.le_of_ble_eq_true rfl) (fun Γ B K => ?_)
  obtain ⟨C, Rm, -⟩ := B
  have C : q_C Γ cX11_out RX11 := C
  show q_V Γ sz 0 0 h [(0, .ref a0), (1, .int a1), (2, .int a2)] [] 0
  unfold m_X11_out at hm
  refine q_aload_n C (k4 := 0) 0 rfl (by decide +kernel) ?_
  refine q_getn C fl_11_50 hm (by decide +kernel) (fun v1 hm => ?_)
  refine q_geto C fl_11_99 hm (by decide +kernel) (fun v2 hm => ?_)
  refine q_ifnull C (off := 23) 30 hm (by decide +kernel) (by decide) (fun _ hm => ?_) (fun _ hm => ?_)
  · refine q_bipush C (n := (-2)) (v := (-2)) (by decide) (by decide +kernel) ?_
    exact q_riS hm K rfl (by decide +kernel)
  · refine q_iload_n C (k4 := 1) 1 rfl (by decide +kernel) ?_
    refine q_iconst C (n := 1) (v := 1) (by decide) (by decide +kernel) ?_
    refine q_icmp_lt C (off := 18) 30 hm (by decide +kernel) (by decide) (fun _ hm => ?_) (fun _ hm => ?_)
    · refine q_bipush C (n := (-2)) (v := (-2)) (by decide) (by decide +kernel) ?_
      exact q_riS hm K rfl (by decide +kernel)
    · refine q_iload_n C (k4 := 1) 1 rfl (by decide +kernel) ?_
      refine q_bipush C (n := 40) (v := 40) (by decide) (by decide +kernel) ?_
      refine q_icmp_gt C (off := 12) 30 hm (by decide +kernel) (by decide) (fun _ hm => ?_) (fun _ hm => ?_)
      · refine q_bipush C (n := (-2)) (v := (-2)) (by decide) (by decide +kernel) ?_
        exact q_riS hm K rfl (by decide +kernel)
      · refine q_iload_n C (k4 := 2) 2 rfl (by decide +kernel) ?_
        refine q_if_lt C (off := 8) 30 hm (by decide +kernel) (by decide) (fun _ hm => ?_) (fun _ hm => ?_)
        · refine q_bipush C (n := (-2)) (v := (-2)) (by decide) (by decide +kernel) ?_
          exact q_riS hm K rfl (by decide +kernel)
        · refine q_iload_n C (k4 := 2) 2 rfl (by decide +kernel) ?_
          refine q_iconst C (n := 1) (v := 1) (by decide) (by decide +kernel) ?_
          refine q_icmp_le C (off := 6) 33 hm (by decide +kernel) (by decide) (fun _ hm => ?_) (fun _ hm => ?_)
          · refine q_aload_n C (k4 := 0) 0 rfl (by decide +kernel) ?_
            refine q_getn C fl_11_77 hm (by decide +kernel) (fun v3 hm => ?_)
            refine q_iload_n C (k4 := 1) 1 rfl (by decide +kernel) ?_
            refine q_iload_n C (k4 := 2) 2 rfl (by decide +kernel) ?_
            refine q_viS C Rm (As := [.int a1, .int a2]) (rest := []) Y_X8_bestIdler Yv_X8_bestIdler ml_X11_235 (by decide) (by decide) hm (fun r4 h5 e9 => c_X8_bestIdler _ _ _ _ _ _ _ _ _ e9) rfl rfl (Nat.le_of_ble_eq_true rfl) (by decide +kernel) (fun r4 h5 hm z6 => ?_)
            exact q_riS hm K rfl (by decide +kernel)
          · refine q_bipush C (n := (-2)) (v := (-2)) (by decide) (by decide +kernel) ?_
            exact q_riS hm K rfl (by decide +kernel)
def m_X11_strengths (h : q_H) (a0 : Nat) (a1 : Int32) (a2 : Int32) : Option (Int32 × q_H) :=
  (q_gn h a0 11 5).bind fun v1 =>
  (q_ca 0 h v1 (m_X0_has h v1 a1)).bind fun r2 =>
  if r2 = 0 then
    some ((-1 : Int32), h)
  else
    if a2 < 0 then
      some ((-1 : Int32), h)
    else
      if a2 ≤ (1 : Int32) then
        (q_gn h a0 11 9).bind fun v4 =>
        (q_ca 8 h v4 (m_X8_possibleStrengths h v4 a1 a2)).bind fun (r5, h6) =>
        some (r5, h6)
      else
        some ((-1 : Int32), h)
set_option maxRecDepth 20000 in
set_option maxHeartbeats 1000000 in
theorem c_X11_strengths (l : Launch) (base : Nat) (D : va_G) (tc : Nat → ClassId) (sz : Nat) (h : q_H) (a0 : Nat) (a1 : Int32) (a2 : Int32) {r : Int32} {h' : q_H} (hm : m_X11_strengths h a0 a1 a2 = some (r, h')) : q_M l yX11_strengths cX11_strengths 3 (some .int) 7 180 0 0 base D tc [.ref a0, .int a1, .int a2] sz h (some (.int r)) sz h' := by
  refine q_starti (by decide) (Nat.le_of_ble_eq_true rfl) (fun Γ B K => ?_)
  obtain ⟨C, Rm, -⟩ := B
  have C : q_C Γ cX11_strengths RX11 := C
  show q_V Γ sz 0 0 h [(0, .ref a0), (1, .int a1), (2, .int a2)] [] 0
  unfold m_X11_strengths at hm
  refine q_aload_n C (k4 := 0) 0 rfl (by decide +kernel) ?_
  refine q_getn C fl_11_50 hm (by decide +kernel) (fun v1 hm => ?_)
  refine q_iload_n C (k4 := 1) 1 rfl (by decide +kernel) ?_
  refine q_viP C Rm (As := [.int a1]) (rest := []) Y_X0_has Yv_X0_has ml_X11_132 (by decide) (by decide) hm (fun r9 e9 => c_X0_has _ _ _ _ _ _ _ _ e9) rfl rfl (Nat.le_of_ble_eq_true rfl) (by decide +kernel) (fun r2 hm z3 => ?_)
  refine q_if_eq C (off := 12) 20 hm (by decide +kernel) (by decide) (fun _ hm => ?_) (fun _ hm => ?_)
  · refine q_iconst C (n := (-1)) (v := (-1)) (by decide) (by decide +kernel) ?_
    exact q_riS hm K rfl (by decide +kernel)
  · refine q_iload_n C (k4 := 2) 2 rfl (by decide +kernel) ?_
    refine q_if_lt C (off := 8) 20 hm (by decide +kernel) (by decide) (fun _ hm => ?_) (fun _ hm => ?_)
    · refine q_iconst C (n := (-1)) (v := (-1)) (by decide) (by decide +kernel) ?_
      exact q_riS hm K rfl (by decide +kernel)
    · refine q_iload_n C (k4 := 2) 2 rfl (by decide +kernel) ?_
      refine q_iconst C (n := 1) (v := 1) (by decide) (by decide +kernel) ?_
      refine q_icmp_le C (off := 5) 22 hm (by decide +kernel) (by decide) (fun _ hm => ?_) (fun _ hm => ?_)
      · refine q_aload_n C (k4 := 0) 0 rfl (by decide +kernel) ?_
        refine q_getn C fl_11_77 hm (by decide +kernel) (fun v4 hm => ?_)
        refine q_iload_n C (k4 := 1) 1 rfl (by decide +kernel) ?_
        refine q_iload_n C (k4 := 2) 2 rfl (by decide +kernel) ?_
        refine q_viS C Rm (As := [.int a1, .int a2]) (rest := []) Y_X8_possibleStrengths Yv_X8_possibleStrengths ml_X11_238 (by decide) (by decide) hm (fun r5 h6 e9 => c_X8_possibleStrengths _ _ _ _ _ _ _ _ _ e9) rfl rfl (Nat.le_of_ble_eq_true rfl) (by decide +kernel) (fun r5 h6 hm z7 => ?_)
        exact q_riS hm K rfl (by decide +kernel)
      · refine q_iconst C (n := (-1)) (v := (-1)) (by decide) (by decide +kernel) ?_
        exact q_riS hm K rfl (by decide +kernel)
def m_X11_winds (h : q_H) (a0 : Nat) (a1 : Int32) (a2 : Int32) : Option (Int32 × q_H) :=
  (q_gn h a0 11 5).bind fun v1 =>
  (q_ca 0 h v1 (m_X0_has h v1 a1)).bind fun r2 =>
  if r2 = 0 then
    some ((-1 : Int32), h)
  else
    if a2 < 0 then
      some ((-1 : Int32), h)
    else
      if a2 ≤ (1 : Int32) then
        (q_gn h a0 11 9).bind fun v4 =>
        (q_ca 8 h v4 (m_X8_possibleWinds h v4 a1 a2)).bind fun (r5, h6) =>
        some (r5, h6)
      else
        some ((-1 : Int32), h)
set_option maxRecDepth 20000 in
set_option maxHeartbeats 1000000 in
theorem c_X11_winds (l : Launch) (base : Nat) (D : va_G) (tc : Nat → ClassId) (sz : Nat) (h : q_H) (a0 : Nat) (a1 : Int32) (a2 : Int32) {r : Int32} {h' : q_H} (hm : m_X11_winds h a0 a1 a2 = some (r, h')) : q_M l yX11_winds cX11_winds 3 (some .int) 7 180 0 0 base D tc [.ref a0, .int a1, .int a2] sz h (some (.int r)) sz h' := by
  refine q_starti (by decide) (Nat.le_of_ble_eq_true rfl) (fun Γ B K => ?_)
  obtain ⟨C, Rm, -⟩ := B
  have C : q_C Γ cX11_winds RX11 := C
  show q_V Γ sz 0 0 h [(0, .ref a0), (1, .int a1), (2, .int a2)] [] 0
  unfold m_X11_winds at hm
  refine q_aload_n C (k4 := 0) 0 rfl (by decide +kernel) ?_
  refine q_getn C fl_11_50 hm (by decide +kernel) (fun v1 hm => ?_)
  refine q_iload_n C (k4 := 1) 1 rfl (by decide +kernel) ?_
  refine q_viP C Rm (As := [.int a1]) (rest := []) Y_X0_has Yv_X0_has ml_X11_132 (by decide) (by decide) hm (fun r9 e9 => c_X0_has _ _ _ _ _ _ _ _ e9) rfl rfl (Nat.le_of_ble_eq_true rfl) (by decide +kernel) (fun r2 hm z3 => ?_)
  refine q_if_eq C (off := 12) 20 hm (by decide +kernel) (by decide) (fun _ hm => ?_) (fun _ hm => ?_)
  · refine q_iconst C (n := (-1)) (v := (-1)) (by decide) (by decide +kernel) ?_
    exact q_riS hm K rfl (by decide +kernel)
  · refine q_iload_n C (k4 := 2) 2 rfl (by decide +kernel) ?_
    refine q_if_lt C (off := 8) 20 hm (by decide +kernel) (by decide) (fun _ hm => ?_) (fun _ hm => ?_)
    · refine q_iconst C (n := (-1)) (v := (-1)) (by decide) (by decide +kernel) ?_
      exact q_riS hm K rfl (by decide +kernel)
    · refine q_iload_n C (k4 := 2) 2 rfl (by decide +kernel) ?_
      refine q_iconst C (n := 1) (v := 1) (by decide) (by decide +kernel) ?_
      refine q_icmp_le C (off := 5) 22 hm (by decide +kernel) (by decide) (fun _ hm => ?_) (fun _ hm => ?_)
      · refine q_aload_n C (k4 := 0) 0 rfl (by decide +kernel) ?_
        refine q_getn C fl_11_77 hm (by decide +kernel) (fun v4 hm => ?_)
        refine q_iload_n C (k4 := 1) 1 rfl (by decide +kernel) ?_
        refine q_iload_n C (k4 := 2) 2 rfl (by decide +kernel) ?_
        refine q_viS C Rm (As := [.int a1, .int a2]) (rest := []) Y_X8_possibleWinds Yv_X8_possibleWinds ml_X11_241 (by decide) (by decide) hm (fun r5 h6 e9 => c_X8_possibleWinds _ _ _ _ _ _ _ _ _ e9) rfl rfl (Nat.le_of_ble_eq_true rfl) (by decide +kernel) (fun r5 h6 hm z7 => ?_)
        exact q_riS hm K rfl (by decide +kernel)
      · refine q_iconst C (n := (-1)) (v := (-1)) (by decide) (by decide +kernel) ?_
        exact q_riS hm K rfl (by decide +kernel)
def m_X11_rests (h : q_H) (a0 : Nat) (a1 : Int32) (a2 : Int32) (a3 : Int32) (a4 : Int32) : Option (Int32 × q_H) :=
  (q_gn h a0 11 5).bind fun v1 =>
  (q_ca 0 h v1 (m_X0_has h v1 a1)).bind fun r2 =>
  if r2 = 0 then
    some ((-1 : Int32), h)
  else
    (q_gn h a0 11 5).bind fun v4 =>
    (q_ca 0 h v4 (m_X0_has h v4 a2)).bind fun r5 =>
    if r5 = 0 then
      some ((-1 : Int32), h)
    else
      if a1 = a2 then
        some ((-1 : Int32), h)
      else
        if a3 < (1 : Int32) then
          some ((-1 : Int32), h)
        else
          if (20 : Int32) < a3 then
            some ((-1 : Int32), h)
          else
            if a4 < 0 then
              some ((-1 : Int32), h)
            else
              if a4 ≤ (2 : Int32) then
                (q_gn h a0 11 9).bind fun v7 =>
                (q_ca 8 h v7 (m_X8_steadyEfforts h v7 a1 a2 a3 a4)).bind fun (r8, h9) =>
                some (r8, h9)
              else
                some ((-1 : Int32), h)
set_option maxRecDepth 20000 in
set_option maxHeartbeats 1000000 in
theorem c_X11_rests (l : Launch) (base : Nat) (D : va_G) (tc : Nat → ClassId) (sz : Nat) (h : q_H) (a0 : Nat) (a1 : Int32) (a2 : Int32) (a3 : Int32) (a4 : Int32) {r : Int32} {h' : q_H} (hm : m_X11_rests h a0 a1 a2 a3 a4 = some (r, h')) : q_M l yX11_rests cX11_rests 5 (some .int) 6 158 0 0 base D tc [.ref a0, .int a1, .int a2, .int a3, .int a4] sz h (some (.int r)) sz h' := by
  refine q_starti (by decide) (Nat.le_of_ble_eq_true rfl) (fun Γ B K => ?_)
  obtain ⟨C, Rm, -⟩ := B
  have C : q_C Γ cX11_rests RX11 := C
  show q_V Γ sz 0 0 h [(0, .ref a0), (1, .int a1), (2, .int a2), (3, .int a3), (4, .int a4)] [] 0
  unfold m_X11_rests at hm
  refine q_aload_n C (k4 := 0) 0 rfl (by decide +kernel) ?_
  refine q_getn C fl_11_50 hm (by decide +kernel) (fun v1 hm => ?_)
  refine q_iload_n C (k4 := 1) 1 rfl (by decide +kernel) ?_
  refine q_viP C Rm (As := [.int a1]) (rest := []) Y_X0_has Yv_X0_has ml_X11_132 (by decide) (by decide) hm (fun r9 e9 => c_X0_has _ _ _ _ _ _ _ _ e9) rfl rfl (Nat.le_of_ble_eq_true rfl) (by decide +kernel) (fun r2 hm z3 => ?_)
  refine q_if_eq C (off := 19) 27 hm (by decide +kernel) (by decide) (fun _ hm => ?_) (fun _ hm => ?_)
  · refine q_iconst C (n := (-1)) (v := (-1)) (by decide) (by decide +kernel) ?_
    exact q_riS hm K rfl (by decide +kernel)
  · refine q_aload_n C (k4 := 0) 0 rfl (by decide +kernel) ?_
    refine q_getn C fl_11_50 hm (by decide +kernel) (fun v4 hm => ?_)
    refine q_iload_n C (k4 := 2) 2 rfl (by decide +kernel) ?_
    refine q_viP C Rm (As := [.int a2]) (rest := []) Y_X0_has Yv_X0_has ml_X11_132 (by decide) (by decide) hm (fun r9 e9 => c_X0_has _ _ _ _ _ _ _ _ e9) rfl rfl (Nat.le_of_ble_eq_true rfl) (by decide +kernel) (fun r5 hm z6 => ?_)
    refine q_if_eq C (off := 8) 27 hm (by decide +kernel) (by decide) (fun _ hm => ?_) (fun _ hm => ?_)
    · refine q_iconst C (n := (-1)) (v := (-1)) (by decide) (by decide +kernel) ?_
      exact q_riS hm K rfl (by decide +kernel)
    · refine q_iload_n C (k4 := 1) 1 rfl (by decide +kernel) ?_
      refine q_iload_n C (k4 := 2) 2 rfl (by decide +kernel) ?_
      refine q_icmp_ne C (off := 5) 29 hm (by decide +kernel) (by decide) (fun _ hm => ?_) (fun _ hm => ?_)
      · refine q_iload_n C (k4 := 3) 3 rfl (by decide +kernel) ?_
        refine q_iconst C (n := 1) (v := 1) (by decide) (by decide +kernel) ?_
        refine q_icmp_lt C (off := 20) 51 hm (by decide +kernel) (by decide) (fun _ hm => ?_) (fun _ hm => ?_)
        · refine q_iconst C (n := (-1)) (v := (-1)) (by decide) (by decide +kernel) ?_
          exact q_riS hm K rfl (by decide +kernel)
        · refine q_iload_n C (k4 := 3) 3 rfl (by decide +kernel) ?_
          refine q_bipush C (n := 20) (v := 20) (by decide) (by decide +kernel) ?_
          refine q_icmp_gt C (off := 14) 51 hm (by decide +kernel) (by decide) (fun _ hm => ?_) (fun _ hm => ?_)
          · refine q_iconst C (n := (-1)) (v := (-1)) (by decide) (by decide +kernel) ?_
            exact q_riS hm K rfl (by decide +kernel)
          · refine q_iload C (i := 4) 4 rfl (by decide +kernel) ?_
            refine q_if_lt C (off := 9) 51 hm (by decide +kernel) (by decide) (fun _ hm => ?_) (fun _ hm => ?_)
            · refine q_iconst C (n := (-1)) (v := (-1)) (by decide) (by decide +kernel) ?_
              exact q_riS hm K rfl (by decide +kernel)
            · refine q_iload C (i := 4) 4 rfl (by decide +kernel) ?_
              refine q_iconst C (n := 2) (v := 2) (by decide) (by decide +kernel) ?_
              refine q_icmp_le C (off := 5) 53 hm (by decide +kernel) (by decide) (fun _ hm => ?_) (fun _ hm => ?_)
              · refine q_aload_n C (k4 := 0) 0 rfl (by decide +kernel) ?_
                refine q_getn C fl_11_77 hm (by decide +kernel) (fun v7 hm => ?_)
                refine q_iload_n C (k4 := 1) 1 rfl (by decide +kernel) ?_
                refine q_iload_n C (k4 := 2) 2 rfl (by decide +kernel) ?_
                refine q_iload_n C (k4 := 3) 3 rfl (by decide +kernel) ?_
                refine q_iload C (i := 4) 4 rfl (by decide +kernel) ?_
                refine q_viS C Rm (As := [.int a1, .int a2, .int a3, .int a4]) (rest := []) Y_X8_steadyEfforts Yv_X8_steadyEfforts ml_X11_244 (by decide) (by decide) hm (fun r8 h9 e9 => c_X8_steadyEfforts _ _ _ _ _ _ _ _ _ _ _ e9) rfl rfl (Nat.le_of_ble_eq_true rfl) (by decide +kernel) (fun r8 h9 hm z10 => ?_)
                exact q_riS hm K rfl (by decide +kernel)
              · refine q_iconst C (n := (-1)) (v := (-1)) (by decide) (by decide +kernel) ?_
                exact q_riS hm K rfl (by decide +kernel)
      · refine q_iconst C (n := (-1)) (v := (-1)) (by decide) (by decide +kernel) ?_
        exact q_riS hm K rfl (by decide +kernel)
def m_X11_alike (h : q_H) (a0 : Nat) (a1 : Int32) : Option (Int32 × q_H) :=
  (q_gn h a0 11 5).bind fun v1 =>
  (q_go h v1 0 0).bind fun v2 =>
  if v2 = none then
    some ((-1 : Int32), h)
  else
    if a1 < 0 then
      some ((-1 : Int32), h)
    else
      if a1 ≤ (1 : Int32) then
        (q_gn h a0 11 9).bind fun v3 =>
        (q_ca 8 h v3 (m_X8_findAlike h v3 a1)).bind fun (r4, h5) =>
        some (r4, h5)
      else
        some ((-1 : Int32), h)
set_option maxRecDepth 20000 in
set_option maxHeartbeats 1000000 in
theorem c_X11_alike (l : Launch) (base : Nat) (D : va_G) (tc : Nat → ClassId) (sz : Nat) (h : q_H) (a0 : Nat) (a1 : Int32) {r : Int32} {h' : q_H} (hm : m_X11_alike h a0 a1 = some (r, h')) : q_M l yX11_alike cX11_alike 2 (some .int) 6 154 0 0 base D tc [.ref a0, .int a1] sz h (some (.int r)) sz h' := by
  refine q_starti (by decide) (Nat.le_of_ble_eq_true rfl) (fun Γ B K => ?_)
  obtain ⟨C, Rm, -⟩ := B
  have C : q_C Γ cX11_alike RX11 := C
  show q_V Γ sz 0 0 h [(0, .ref a0), (1, .int a1)] [] 0
  unfold m_X11_alike at hm
  refine q_aload_n C (k4 := 0) 0 rfl (by decide +kernel) ?_
  refine q_getn C fl_11_50 hm (by decide +kernel) (fun v1 hm => ?_)
  refine q_geto C fl_11_99 hm (by decide +kernel) (fun v2 hm => ?_)
  refine q_ifnull C (off := 12) 19 hm (by decide +kernel) (by decide) (fun _ hm => ?_) (fun _ hm => ?_)
  · refine q_iconst C (n := (-1)) (v := (-1)) (by decide) (by decide +kernel) ?_
    exact q_riS hm K rfl (by decide +kernel)
  · refine q_iload_n C (k4 := 1) 1 rfl (by decide +kernel) ?_
    refine q_if_lt C (off := 8) 19 hm (by decide +kernel) (by decide) (fun _ hm => ?_) (fun _ hm => ?_)
    · refine q_iconst C (n := (-1)) (v := (-1)) (by decide) (by decide +kernel) ?_
      exact q_riS hm K rfl (by decide +kernel)
    · refine q_iload_n C (k4 := 1) 1 rfl (by decide +kernel) ?_
      refine q_iconst C (n := 1) (v := 1) (by decide) (by decide +kernel) ?_
      refine q_icmp_le C (off := 5) 21 hm (by decide +kernel) (by decide) (fun _ hm => ?_) (fun _ hm => ?_)
      · refine q_aload_n C (k4 := 0) 0 rfl (by decide +kernel) ?_
        refine q_getn C fl_11_77 hm (by decide +kernel) (fun v3 hm => ?_)
        refine q_iload_n C (k4 := 1) 1 rfl (by decide +kernel) ?_
        refine q_viS C Rm (As := [.int a1]) (rest := []) Y_X8_findAlike Yv_X8_findAlike ml_X11_248 (by decide) (by decide) hm (fun r4 h5 e9 => c_X8_findAlike _ _ _ _ _ _ _ _ e9) rfl rfl (Nat.le_of_ble_eq_true rfl) (by decide +kernel) (fun r4 h5 hm z6 => ?_)
        exact q_riS hm K rfl (by decide +kernel)
      · refine q_iconst C (n := (-1)) (v := (-1)) (by decide) (by decide +kernel) ?_
        exact q_riS hm K rfl (by decide +kernel)
def m_X11_pence (h0 : q_H) (a0 : Nat) (a1 : Int32) (a2 : Int32) : Option Int32 :=
  (q_gn h0 a0 11 5).bind fun v1 =>
  (q_ca 0 h0 v1 (m_X0_has h0 v1 a2)).bind fun r2 =>
  if r2 = 0 then
    some ((-1 : Int32))
  else
    if a1 < 0 then
      some ((-1 : Int32))
    else
      if a1 ≤ (9999 : Int32) then
        (q_gn h0 a0 11 5).bind fun v4 =>
        (q_gn h0 v4 0 1).bind fun v5 =>
        (q_gn h0 a0 11 5).bind fun v6 =>
        (q_gn h0 v6 0 0).bind fun v7 =>
        (q_gi h0 v7 4 3).bind fun v8 =>
        (q_ca 10 h0 v5 (m_X10_penceOf h0 v5 a1 a2 v8)).bind fun r9 =>
        some r9
      else
        some ((-1 : Int32))
set_option maxRecDepth 20000 in
set_option maxHeartbeats 1000000 in
theorem c_X11_pence (l : Launch) (base : Nat) (D : va_G) (tc : Nat → ClassId) (sz : Nat) (h0 : q_H) (a0 : Nat) (a1 : Int32) (a2 : Int32) {r : Int32} (hm : m_X11_pence h0 a0 a1 a2 = some r) : q_M l yX11_pence cX11_pence 3 (some .int) 2 52 0 0 base D tc [.ref a0, .int a1, .int a2] sz h0 (some (.int r)) sz h0 := by
  refine q_starti (by decide) (Nat.le_of_ble_eq_true rfl) (fun Γ B K => ?_)
  obtain ⟨C, Rm, -⟩ := B
  have C : q_C Γ cX11_pence RX11 := C
  show q_V Γ sz 0 0 h0 [(0, .ref a0), (1, .int a1), (2, .int a2)] [] 0
  unfold m_X11_pence at hm
  refine q_aload_n C (k4 := 0) 0 rfl (by decide +kernel) ?_
  refine q_getn C fl_11_50 hm (by decide +kernel) (fun v1 hm => ?_)
  refine q_iload_n C (k4 := 2) 2 rfl (by decide +kernel) ?_
  refine q_viP C Rm (As := [.int a2]) (rest := []) Y_X0_has Yv_X0_has ml_X11_132 (by decide) (by decide) hm (fun r9 e9 => c_X0_has _ _ _ _ _ _ _ _ e9) rfl rfl (Nat.le_of_ble_eq_true rfl) (by decide +kernel) (fun r2 hm z3 => ?_)
  refine q_if_eq C (off := 14) 22 hm (by decide +kernel) (by decide) (fun _ hm => ?_) (fun _ hm => ?_)
  · refine q_iconst C (n := (-1)) (v := (-1)) (by decide) (by decide +kernel) ?_
    exact q_riP hm K rfl (by decide +kernel)
  · refine q_iload_n C (k4 := 1) 1 rfl (by decide +kernel) ?_
    refine q_if_lt C (off := 10) 22 hm (by decide +kernel) (by decide) (fun _ hm => ?_) (fun _ hm => ?_)
    · refine q_iconst C (n := (-1)) (v := (-1)) (by decide) (by decide +kernel) ?_
      exact q_riP hm K rfl (by decide +kernel)
    · refine q_iload_n C (k4 := 1) 1 rfl (by decide +kernel) ?_
      refine q_sipush C (n := 9999) (v := 9999) (by decide) (by decide +kernel) ?_
      refine q_icmp_le C (off := 5) 24 hm (by decide +kernel) (by decide) (fun _ hm => ?_) (fun _ hm => ?_)
      · refine q_aload_n C (k4 := 0) 0 rfl (by decide +kernel) ?_
        refine q_getn C fl_11_50 hm (by decide +kernel) (fun v4 hm => ?_)
        refine q_getn C fl_11_103 hm (by decide +kernel) (fun v5 hm => ?_)
        refine q_iload_n C (k4 := 1) 1 rfl (by decide +kernel) ?_
        refine q_iload_n C (k4 := 2) 2 rfl (by decide +kernel) ?_
        refine q_aload_n C (k4 := 0) 0 rfl (by decide +kernel) ?_
        refine q_getn C fl_11_50 hm (by decide +kernel) (fun v6 hm => ?_)
        refine q_getn C fl_11_99 hm (by decide +kernel) (fun v7 hm => ?_)
        refine q_geti C fl_11_119 hm (by decide +kernel) (fun v8 hm => ?_)
        refine q_viP C Rm (As := [.int a1, .int a2, .int v8]) (rest := []) Y_X10_penceOf Yv_X10_penceOf ml_X11_251 (by decide) (by decide) hm (fun r9 e9 => c_X10_penceOf _ _ _ _ _ _ _ _ _ _ e9) rfl rfl (Nat.le_of_ble_eq_true rfl) (by decide +kernel) (fun r9 hm z10 => ?_)
        exact q_riP hm K rfl (by decide +kernel)
      · refine q_iconst C (n := (-1)) (v := (-1)) (by decide) (by decide +kernel) ?_
        exact q_riP hm K rfl (by decide +kernel)
