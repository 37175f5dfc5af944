def m_X7_closeAll_2  : Nat → q_H → Nat → Int32 → Option q_H
  | 0, _, _, _ => none
  | n + 1, h, x0, x1 =>
    if (10 : Int32) < x1 then
      some h
    else
      (q_gn h x0 7 0).bind fun v1 =>
      (q_gi h v1 3 8).bind fun v2 =>
      if v2 = 0 then
        (q_gn h x0 7 0).bind fun v3 =>
        (q_gi h v3 3 6).bind fun v4 =>
        if v4 = (93 : Int32) then
          (q_ca 7 h x0 (m_X7_settle h x0 ((2 : Int32)))).bind fun h6 =>
          (q_gi h6 x0 7 6).bind fun v7 =>
          if v7 = 0 then
            some h6
          else
            (q_gi h6 x0 7 6).bind fun v8 =>
            (q_pf h6 x0 7 6 (.int ((v8 - (1 : Int32))))).bind fun h9 =>
            (q_gi h9 x0 7 7).bind fun v10 =>
            (q_pf h9 x0 7 7 (.int ((v10 - (1 : Int32))))).bind fun h11 =>
            (q_gn h11 x0 7 0).bind fun v12 =>
            (q_ca 3 h11 v12 (m_X3_next h11 v12)).bind fun h14 =>
            m_X7_closeAll_2 n h14 x0 ((x1 + (1 : Int32)))
        else
          some h
      else
        some h
set_option maxRecDepth 20000 in
set_option maxHeartbeats 1000000 in
theorem v_X7_closeAll_2 {Γ : q_G} {sz : Nat} {h' : q_H} (C : q_C Γ cX7_closeAll RX7) (Rm : q_Rm Γ 2 2 44 0 0)  (K : q_K Γ cX7_closeAll .return_ sz h' 0 0 [])  : ∀ (n : Nat) (h : q_H) (x0 : Nat) (x1 : Int32), m_X7_closeAll_2 n h x0 x1 = some h' → q_V Γ sz 0 0 h [(0, .ref x0), (1, .int x1)] [] 2 := by
  intro n
  induction n with
  | zero => intro h x0 x1 hm; cases hm
  | succ n ih =>
    intro h x0 x1 hm
    unfold m_X7_closeAll_2 at hm
    refine q_iload_n C (k4 := 1) 1 rfl (by decide +kernel) ?_
    refine q_bipush C (n := 10) (v := 10) (by decide) (by decide +kernel) ?_
    refine q_icmp_gt C (off := 72) 77 hm (by decide +kernel) (by decide) (fun _ hm => ?_) (fun _ hm => ?_)
    · exact q_rvS hm K (by decide +kernel)
    · refine q_aload_n C (k4 := 0) 0 rfl (by decide +kernel) ?_
      refine q_getn C fl_7_9 hm (by decide +kernel) (fun v1 hm => ?_)
      refine q_geti C fl_7_53 hm (by decide +kernel) (fun v2 hm => ?_)
      refine q_if_ne C (off := 15) 30 hm (by decide +kernel) (by decide) (fun _ hm => ?_) (fun _ hm => ?_)
      · exact q_rvS hm K (by decide +kernel)
      · refine q_aload_n C (k4 := 0) 0 rfl (by decide +kernel) ?_
        refine q_getn C fl_7_9 hm (by decide +kernel) (fun v3 hm => ?_)
        refine q_geti C fl_7_67 hm (by decide +kernel) (fun v4 hm => ?_)
        refine q_bipush C (n := 93) (v := 93) (by decide) (by decide +kernel) ?_
        refine q_icmp_eq C (off := 4) 31 hm (by decide +kernel) (by decide) (fun _ hm => ?_) (fun _ hm => ?_)
        · refine q_aload_n C (k4 := 0) 0 rfl (by decide +kernel) ?_
          refine q_iconst C (n := 2) (v := 2) (by decide) (by decide +kernel) ?_
          refine q_vvS C Rm (As := [.int ((2 : Int32))]) (rest := []) Y_X7_settle Yv_X7_settle ml_X7_114 (by decide) (by decide) hm (fun h6 e9 => c_X7_settle _ _ _ _ _ _ _ _ e9) rfl rfl (Nat.le_of_ble_eq_true rfl) (by decide +kernel) (fun h6 hm => ?_)
          refine q_aload_n C (k4 := 0) 0 rfl (by decide +kernel) ?_
          refine q_geti C fl_7_99 hm (by decide +kernel) (fun v7 hm => ?_)
          refine q_if_ne C (off := 4) 44 hm (by decide +kernel) (by decide) (fun _ hm => ?_) (fun _ hm => ?_)
          · refine q_aload_n C (k4 := 0) 0 rfl (by decide +kernel) ?_
            refine q_dup C rfl (by decide +kernel) ?_
            refine q_geti C fl_7_99 hm (by decide +kernel) (fun v8 hm => ?_)
            refine q_iconst C (n := 1) (v := 1) (by decide) (by decide +kernel) ?_
            refine q_isub C (by decide +kernel) ?_
            refine q_putf C fl_7_99 hm rfl rfl (by decide +kernel) (fun h9 hm => ?_)
            refine q_aload_n C (k4 := 0) 0 rfl (by decide +kernel) ?_
            refine q_dup C rfl (by decide +kernel) ?_
            refine q_geti C fl_7_102 hm (by decide +kernel) (fun v10 hm => ?_)
            refine q_iconst C (n := 1) (v := 1) (by decide) (by decide +kernel) ?_
            refine q_isub C (by decide +kernel) ?_
            refine q_putf C fl_7_102 hm rfl rfl (by decide +kernel) (fun h11 hm => ?_)
            refine q_aload_n C (k4 := 0) 0 rfl (by decide +kernel) ?_
            refine q_getn C fl_7_9 hm (by decide +kernel) (fun v12 hm => ?_)
            refine q_vvS C Rm (As := []) (rest := []) Y_X3_next Yv_X3_next ml_X7_73 (by decide) (by decide) hm (fun h14 e9 => c_X3_next _ _ _ _ _ _ _ e9) rfl rfl (Nat.le_of_ble_eq_true rfl) (by decide +kernel) (fun h14 hm => ?_)
            refine q_iinc C Rm.1 (i := 1) (n := 1) (v := (x1 + (1 : Int32))) 1 rfl (q_inc _ (by decide)) (lv' := [(1, .int ((x1 + (1 : Int32)))), (0, .ref x0)]) rfl (by decide) (by decide +kernel) ?_
            refine q_goto C (off := -72) 2 (by decide +kernel) (by decide) ?_
            refine q_loc [1, 0] rfl ?_
            exact ih _ _ _ hm
          · exact q_rvS hm K (by decide +kernel)
        · exact q_rvS hm K (by decide +kernel)
def m_X7_closeAll (h : q_H) (a0 : Nat) : Option q_H :=
  m_X7_closeAll_2 q_fu h a0 ((0 : Int32))
set_option maxRecDepth 20000 in
set_option maxHeartbeats 1000000 in
theorem c_X7_closeAll (l : Launch) (base : Nat) (D : va_G) (tc : Nat → ClassId) (sz : Nat) (h : q_H) (a0 : Nat) {h' : q_H} (hm : m_X7_closeAll h a0 = some h') : q_M l yX7_closeAll cX7_closeAll 2 none 2 44 0 0 base D tc [.ref a0] sz h none sz h' := by
  refine q_startv (by decide) (Nat.le_of_ble_eq_true rfl) (fun Γ B K => ?_)
  obtain ⟨C, Rm, -⟩ := B
  have C : q_C Γ cX7_closeAll RX7 := C
  show q_V Γ sz 0 0 h [(0, .ref a0)] [] 0
  unfold m_X7_closeAll at hm
  refine q_iconst C (n := 0) (v := 0) (by decide) (by decide +kernel) ?_
  refine q_istore_n C Rm.1 (k4 := 1) (i := 1) rfl (lv' := [(1, .int ((0 : Int32))), (0, .ref a0)]) rfl (by decide) (by decide +kernel) ?_
  refine q_loc [1, 0] rfl ?_
  exact v_X7_closeAll_2 C Rm K _ _ _ _ hm
def m_X7_readTest_106  (h : q_H) (x0 : Nat) : Option q_H :=
  (q_ca 7 h x0 (m_X7_settle h x0 ((2 : Int32)))).bind fun h23 =>
  (q_gi h23 x0 7 6).bind fun v24 =>
  if v24 = 0 then
    some h23
  else
    (q_gn h23 x0 7 0).bind fun v25 =>
    (q_ca 3 h23 v25 (m_X3_refuse h23 v25 ((0 : Int32)))).bind fun (r26, h27) =>
    some h27
set_option maxRecDepth 20000 in
set_option maxHeartbeats 1000000 in
theorem v_X7_readTest_106 {Γ : q_G} {sz : Nat} {h' : q_H} (C : q_C Γ cX7_readTest RX7) (Rm : q_Rm Γ 3 4 88 0 0)  (K : q_K Γ cX7_readTest .return_ sz h' 0 0 [])  : ∀ (h : q_H) (x0 : Nat), m_X7_readTest_106 h x0 = some h' → q_V Γ sz 0 0 h [(0, .ref x0)] [] 106 := by
  intro h x0 hm
  unfold m_X7_readTest_106 at hm
  refine q_aload_n C (k4 := 0) 0 rfl (by decide +kernel) ?_
  refine q_iconst C (n := 2) (v := 2) (by decide) (by decide +kernel) ?_
  refine q_vvS C Rm (As := [.int ((2 : Int32))]) (rest := []) Y_X7_settle Yv_X7_settle ml_X7_114 (by decide) (by decide) hm (fun h23 e9 => c_X7_settle _ _ _ _ _ _ _ _ e9) rfl rfl (Nat.le_of_ble_eq_true rfl) (by decide +kernel) (fun h23 hm => ?_)
  refine q_aload_n C (k4 := 0) 0 rfl (by decide +kernel) ?_
  refine q_geti C fl_7_99 hm (by decide +kernel) (fun v24 hm => ?_)
  refine q_if_eq C (off := 12) 127 hm (by decide +kernel) (by decide) (fun _ hm => ?_) (fun _ hm => ?_)
  · exact q_rvS hm K (by decide +kernel)
  · refine q_aload_n C (k4 := 0) 0 rfl (by decide +kernel) ?_
    refine q_getn C fl_7_9 hm (by decide +kernel) (fun v25 hm => ?_)
    refine q_iconst C (n := 0) (v := 0) (by decide) (by decide +kernel) ?_
    refine q_viS C Rm (As := [.int ((0 : Int32))]) (rest := []) Y_X3_refuse Yv_X3_refuse ml_X7_70 (by decide) (by decide) hm (fun r26 h27 e9 => c_X3_refuse _ _ _ _ _ _ _ _ e9) rfl rfl (Nat.le_of_ble_eq_true rfl) (by decide +kernel) (fun r26 h27 hm z28 => ?_)
    refine q_pop C rfl (by decide +kernel) ?_
    exact q_rvS hm K (by decide +kernel)
def m_X7_readTest_65 (k12 : q_H → Nat → Int32 → Option q_H) (h : q_H) (x0 : Nat) (x1 : Int32) (s0 : Int32) : Option q_H :=
  (q_gn h x0 7 0).bind fun v13 =>
  (q_gi h v13 3 8).bind fun v14 =>
  if v14 = 0 then
    if s0 = 0 then
      m_X7_readTest_106 h x0
    else
      (q_ca 7 h x0 (m_X7_settle h x0 s0)).bind fun h16 =>
      (q_ca 7 h16 x0 (m_X7_hold h16 x0 s0)).bind fun h18 =>
      (q_gn h18 x0 7 0).bind fun v19 =>
      (q_ca 3 h18 v19 (m_X3_next h18 v19)).bind fun h21 =>
      k12 h21 x0 ((x1 + (1 : Int32)))
  else
    m_X7_readTest_106 h x0
set_option maxRecDepth 20000 in
set_option maxHeartbeats 1000000 in
theorem v_X7_readTest_65 {Γ : q_G} {sz : Nat} {h' : q_H} (C : q_C Γ cX7_readTest RX7) (Rm : q_Rm Γ 3 4 88 0 0) {k12 : q_H → Nat → Int32 → Option q_H} (K : q_K Γ cX7_readTest .return_ sz h' 0 0 []) (hk12 : ∀ (h : q_H) (x0 : Nat) (x1 : Int32), k12 h x0 x1 = some h' → q_V Γ sz 0 0 h [(0, .ref x0), (1, .int x1)] [] 12) : ∀ (h : q_H) (x0 : Nat) (x1 : Int32) (s0 : Int32), m_X7_readTest_65 k12 h x0 x1 s0 = some h' → q_V Γ sz 0 0 h [(0, .ref x0), (1, .int x1)] [.int s0] 65 := by
  intro h x0 x1 s0 hm
  unfold m_X7_readTest_65 at hm
  refine q_istore_n C Rm.1 (k4 := 2) (i := 2) rfl (lv' := [(2, .int s0), (0, .ref x0), (1, .int x1)]) rfl (by decide) (by decide +kernel) ?_
  refine q_aload_n C (k4 := 0) 1 rfl (by decide +kernel) ?_
  refine q_getn C fl_7_9 hm (by decide +kernel) (fun v13 hm => ?_)
  refine q_geti C fl_7_53 hm (by decide +kernel) (fun v14 hm => ?_)
  refine q_if_ne C (off := 33) 106 hm (by decide +kernel) (by decide) (fun _ hm => ?_) (fun _ hm => ?_)
  · refine q_loc [1] rfl ?_
    exact v_X7_readTest_106 C Rm K _ _ hm
  · refine q_iload_n C (k4 := 2) 0 rfl (by decide +kernel) ?_
    refine q_if_ne C (off := 6) 83 hm (by decide +kernel) (by decide) (fun _ hm => ?_) (fun _ hm => ?_)
    · refine q_aload_n C (k4 := 0) 1 rfl (by decide +kernel) ?_
      refine q_iload_n C (k4 := 2) 0 rfl (by decide +kernel) ?_
      refine q_vvS C Rm (As := [.int s0]) (rest := []) Y_X7_settle Yv_X7_settle ml_X7_114 (by decide) (by decide) hm (fun h16 e9 => c_X7_settle _ _ _ _ _ _ _ _ e9) rfl rfl (Nat.le_of_ble_eq_true rfl) (by decide +kernel) (fun h16 hm => ?_)
      refine q_aload_n C (k4 := 0) 1 rfl (by decide +kernel) ?_
      refine q_iload_n C (k4 := 2) 0 rfl (by decide +kernel) ?_
      refine q_vvS C Rm (As := [.int s0]) (rest := []) Y_X7_hold Yv_X7_hold ml_X7_118 (by decide) (by decide) hm (fun h18 e9 => c_X7_hold _ _ _ _ _ _ _ _ e9) rfl rfl (Nat.le_of_ble_eq_true rfl) (by decide +kernel) (fun h18 hm => ?_)
      refine q_aload_n C (k4 := 0) 1 rfl (by decide +kernel) ?_
      refine q_getn C fl_7_9 hm (by decide +kernel) (fun v19 hm => ?_)
      refine q_vvS C Rm (As := []) (rest := []) Y_X3_next Yv_X3_next ml_X7_73 (by decide) (by decide) hm (fun h21 e9 => c_X3_next _ _ _ _ _ _ _ e9) rfl rfl (Nat.le_of_ble_eq_true rfl) (by decide +kernel) (fun h21 hm => ?_)
      refine q_iinc C Rm.1 (i := 1) (n := 1) (v := (x1 + (1 : Int32))) 2 rfl (q_inc _ (by decide)) (lv' := [(1, .int ((x1 + (1 : Int32)))), (2, .int s0), (0, .ref x0)]) rfl (by decide) (by decide +kernel) ?_
      refine q_goto C (off := -91) 12 (by decide +kernel) (by decide) ?_
      refine q_loc [2, 0] rfl ?_
      exact hk12 _ _ _ hm
    · refine q_goto C (off := 26) 106 (by decide +kernel) (by decide) ?_
      refine q_loc [1] rfl ?_
      exact v_X7_readTest_106 C Rm K _ _ hm
def m_X7_readTest_12  : Nat → q_H → Nat → Int32 → Option q_H
  | 0, _, _, _ => none
  | n + 1, h, x0, x1 =>
    if (60 : Int32) < x1 then
      m_X7_readTest_106 h x0
    else
      (q_ca 7 h x0 (m_X7_openAll h x0)).bind fun h4 =>
      (q_ca 7 h4 x0 (m_X7_readComparison h4 x0)).bind fun h6 =>
      (q_ca 7 h6 x0 (m_X7_closeAll h6 x0)).bind fun h8 =>
      (q_gn h8 x0 7 0).bind fun v9 =>
      (q_gi h8 v9 3 6).bind fun v10 =>
      if v10 = (714 : Int32) then
        m_X7_readTest_65 (m_X7_readTest_12 n) h8 x0 x1 ((3 : Int32))
      else
        (q_gn h8 x0 7 0).bind fun v11 =>
        (q_gi h8 v11 3 6).bind fun v12 =>
        if v12 = (715 : Int32) then
          m_X7_readTest_65 (m_X7_readTest_12 n) h8 x0 x1 ((2 : Int32))
        else
          m_X7_readTest_65 (m_X7_readTest_12 n) h8 x0 x1 ((0 : Int32))
set_option maxRecDepth 20000 in
set_option maxHeartbeats 1000000 in
theorem v_X7_readTest_12 {Γ : q_G} {sz : Nat} {h' : q_H} (C : q_C Γ cX7_readTest RX7) (Rm : q_Rm Γ 3 4 88 0 0)  (K : q_K Γ cX7_readTest .return_ sz h' 0 0 [])  : ∀ (n : Nat) (h : q_H) (x0 : Nat) (x1 : Int32), m_X7_readTest_12 n h x0 x1 = some h' → q_V Γ sz 0 0 h [(0, .ref x0), (1, .int x1)] [] 12 := by
  intro n
  induction n with
  | zero => intro h x0 x1 hm; cases hm
  | succ n ih =>
    intro h x0 x1 hm
    unfold m_X7_readTest_12 at hm
    refine q_iload_n C (k4 := 1) 1 rfl (by decide +kernel) ?_
    refine q_bipush C (n := 60) (v := 60) (by decide) (by decide +kernel) ?_
    refine q_icmp_gt C (off := 91) 106 hm (by decide +kernel) (by decide) (fun _ hm => ?_) (fun _ hm => ?_)
    · refine q_loc [0] rfl ?_
      exact v_X7_readTest_106 C Rm K _ _ hm
    · refine q_aload_n C (k4 := 0) 0 rfl (by decide +kernel) ?_
      refine q_vvS C Rm (As := []) (rest := []) Y_X7_openAll Yv_X7_openAll ml_X7_105 (by decide) (by decide) hm (fun h4 e9 => c_X7_openAll _ _ _ _ _ _ _ e9) rfl rfl (Nat.le_of_ble_eq_true rfl) (by decide +kernel) (fun h4 hm => ?_)
      refine q_aload_n C (k4 := 0) 0 rfl (by decide +kernel) ?_
      refine q_vvS C Rm (As := []) (rest := []) Y_X7_readComparison Yv_X7_readComparison ml_X7_108 (by decide) (by decide) hm (fun h6 e9 => c_X7_readComparison _ _ _ _ _ _ _ e9) rfl rfl (Nat.le_of_ble_eq_true rfl) (by decide +kernel) (fun h6 hm => ?_)
      refine q_aload_n C (k4 := 0) 0 rfl (by decide +kernel) ?_
      refine q_vvS C Rm (As := []) (rest := []) Y_X7_closeAll Yv_X7_closeAll ml_X7_111 (by decide) (by decide) hm (fun h8 e9 => c_X7_closeAll _ _ _ _ _ _ _ e9) rfl rfl (Nat.le_of_ble_eq_true rfl) (by decide +kernel) (fun h8 hm => ?_)
      refine q_aload_n C (k4 := 0) 0 rfl (by decide +kernel) ?_
      refine q_getn C fl_7_9 hm (by decide +kernel) (fun v9 hm => ?_)
      refine q_geti C fl_7_67 hm (by decide +kernel) (fun v10 hm => ?_)
      refine q_sipush C (n := 714) (v := 714) (by decide) (by decide +kernel) ?_
      refine q_icmp_ne C (off := 7) 47 hm (by decide +kernel) (by decide) (fun _ hm => ?_) (fun _ hm => ?_)
      · refine q_aload_n C (k4 := 0) 0 rfl (by decide +kernel) ?_
        refine q_getn C fl_7_9 hm (by decide +kernel) (fun v11 hm => ?_)
        refine q_geti C fl_7_67 hm (by decide +kernel) (fun v12 hm => ?_)
        refine q_sipush C (n := 715) (v := 715) (by decide) (by decide +kernel) ?_
        refine q_icmp_ne C (off := 7) 64 hm (by decide +kernel) (by decide) (fun _ hm => ?_) (fun _ hm => ?_)
        · refine q_iconst C (n := 0) (v := 0) (by decide) (by decide +kernel) ?_
          exact v_X7_readTest_65 C Rm K ih _ _ _ _ hm
        · refine q_iconst C (n := 2) (v := 2) (by decide) (by decide +kernel) ?_
          refine q_goto C (off := 4) 65 (by decide +kernel) (by decide) ?_
          exact v_X7_readTest_65 C Rm K ih _ _ _ _ hm
      · refine q_iconst C (n := 3) (v := 3) (by decide) (by decide +kernel) ?_
        refine q_goto C (off := 21) 65 (by decide +kernel) (by decide) ?_
        exact v_X7_readTest_65 C Rm K ih _ _ _ _ hm
def m_X7_readTest (h : q_H) (a0 : Nat) : Option q_H :=
  (q_pf h a0 7 6 (.int ((0 : Int32)))).bind fun h1 =>
  (q_pf h1 a0 7 7 (.int ((0 : Int32)))).bind fun h2 =>
  m_X7_readTest_12 q_fu h2 a0 ((0 : Int32))
set_option maxRecDepth 20000 in
set_option maxHeartbeats 1000000 in
theorem c_X7_readTest (l : Launch) (base : Nat) (D : va_G) (tc : Nat → ClassId) (sz : Nat) (h : q_H) (a0 : Nat) {h' : q_H} (hm : m_X7_readTest h a0 = some h') : q_M l yX7_readTest cX7_readTest 3 none 4 88 0 0 base D tc [.ref a0] sz h none sz h' := by
  refine q_startv (by decide) (Nat.le_of_ble_eq_true rfl) (fun Γ B K => ?_)
  obtain ⟨C, Rm, -⟩ := B
  have C : q_C Γ cX7_readTest RX7 := C
  show q_V Γ sz 0 0 h [(0, .ref a0)] [] 0
  unfold m_X7_readTest at hm
  refine q_aload_n C (k4 := 0) 0 rfl (by decide +kernel) ?_
  refine q_iconst C (n := 0) (v := 0) (by decide) (by decide +kernel) ?_
  refine q_putf C fl_7_99 hm rfl rfl (by decide +kernel) (fun h1 hm => ?_)
  refine q_aload_n C (k4 := 0) 0 rfl (by decide +kernel) ?_
  refine q_iconst C (n := 0) (v := 0) (by decide) (by decide +kernel) ?_
  refine q_putf C fl_7_102 hm rfl rfl (by decide +kernel) (fun h2 hm => ?_)
  refine q_iconst C (n := 0) (v := 0) (by decide) (by decide +kernel) ?_
  refine q_istore_n C Rm.1 (k4 := 1) (i := 1) rfl (lv' := [(1, .int ((0 : Int32))), (0, .ref a0)]) rfl (by decide) (by decide +kernel) ?_
  refine q_loc [1, 0] rfl ?_
  exact v_X7_readTest_12 C Rm K _ _ _ _ hm
def m_X7_readClause_90  (h : q_H) (x0 : Nat) : Option (Int32 × q_H) :=
  (q_gn h x0 7 0).bind fun v29 =>
  (q_gi h v29 3 8).bind fun v30 =>
  if v30 = 0 then
    some ((1 : Int32), h)
  else
    some ((0 : Int32), h)
set_option maxRecDepth 20000 in
set_option maxHeartbeats 1000000 in
theorem v_X7_readClause_90 {Γ : q_G} {sz : Nat} {r : Int32} {h' : q_H} (C : q_C Γ cX7_readClause RX7) (Rm : q_Rm Γ 2 5 110 0 0)  (K : narrow .boolean (.int r) = .int r → q_K Γ cX7_readClause .ireturn sz h' 0 0 [.int r])  : ∀ (h : q_H) (x0 : Nat), m_X7_readClause_90 h x0 = some (r, h') → q_V Γ sz 0 0 h [(0, .ref x0)] [] 90 := by
  intro h x0 hm
  unfold m_X7_readClause_90 at hm
  refine q_aload_n C (k4 := 0) 0 rfl (by decide +kernel) ?_
  refine q_getn C fl_7_9 hm (by decide +kernel) (fun v29 hm => ?_)
  refine q_geti C fl_7_53 hm (by decide +kernel) (fun v30 hm => ?_)
  refine q_if_ne C (off := 7) 104 hm (by decide +kernel) (by decide) (fun _ hm => ?_) (fun _ hm => ?_)
  · refine q_iconst C (n := 0) (v := 0) (by decide) (by decide +kernel) ?_
    exact q_riS hm K q_z0 (by decide +kernel)
  · refine q_iconst C (n := 1) (v := 1) (by decide) (by decide +kernel) ?_
    refine q_goto C (off := 4) 105 (by decide +kernel) (by decide) ?_
    exact q_riS hm K q_z1 (by decide +kernel)
def m_X7_readClause (h : q_H) (a0 : Nat) (a1 : Int32) : Option (Int32 × q_H) :=
  (q_gn h a0 7 0).bind fun v1 =>
  (q_gi h v1 3 6).bind fun v2 =>
  if v2 = (712 : Int32) then
    if a1 < (12 : Int32) then
      (q_ca 7 h a0 (m_X7_mark h a0)).bind fun h4 =>
      (q_gn h4 a0 7 0).bind fun v5 =>
      (q_ca 3 h4 v5 (m_X3_next h4 v5)).bind fun h7 =>
      (q_ca 7 h7 a0 (m_X7_readSum h7 a0)).bind fun h9 =>
      (q_ca 7 h9 a0 (m_X7_mark h9 a0)).bind fun h11 =>
      (q_gn h11 a0 7 0).bind fun v12 =>
      (q_gi h11 v12 3 8).bind fun v13 =>
      if v13 = 0 then
        (q_gn h11 a0 7 0).bind fun v14 =>
        (q_gi h11 v14 3 6).bind fun v15 =>
        if v15 = (713 : Int32) then
          (q_gn h11 a0 7 0).bind fun v16 =>
          (q_ca 3 h11 v16 (m_X3_next h11 v16)).bind fun h18 =>
          (q_ca 7 h18 a0 (m_X7_readTest h18 a0)).bind fun h20 =>
          m_X7_readClause_90 h20 a0
        else
          m_X7_readClause_90 h11 a0
      else
        m_X7_readClause_90 h11 a0
    else
      (q_gn h a0 7 0).bind fun v21 =>
      (q_ca 3 h v21 (m_X3_refuse h v21 ((4 : Int32)))).bind fun (r22, h23) =>
      some (r22, h23)
  else
    (q_gn h a0 7 0).bind fun v25 =>
    (q_ca 3 h v25 (m_X3_refuse h v25 ((0 : Int32)))).bind fun (r26, h27) =>
    some (r26, h27)
set_option maxRecDepth 20000 in
set_option maxHeartbeats 1000000 in
theorem c_X7_readClause (l : Launch) (base : Nat) (D : va_G) (tc : Nat → ClassId) (sz : Nat) (h : q_H) (a0 : Nat) (a1 : Int32) {r : Int32} {h' : q_H} (hm : m_X7_readClause h a0 a1 = some (r, h')) : q_M l yX7_readClause cX7_readClause 2 (some .boolean) 5 110 0 0 base D tc [.ref a0, .int a1] sz h (some (.int r)) sz h' := by
  refine q_starti (by decide) (Nat.le_of_ble_eq_true rfl) (fun Γ B K => ?_)
  obtain ⟨C, Rm, -⟩ := B
  have C : q_C Γ cX7_readClause RX7 := C
  show q_V Γ sz 0 0 h [(0, .ref a0), (1, .int a1)] [] 0
  unfold m_X7_readClause at hm
  refine q_aload_n C (k4 := 0) 0 rfl (by decide +kernel) ?_
  refine q_getn C fl_7_9 hm (by decide +kernel) (fun v1 hm => ?_)
  refine q_geti C fl_7_67 hm (by decide +kernel) (fun v2 hm => ?_)
  refine q_sipush C (n := 712) (v := 712) (by decide) (by decide +kernel) ?_
  refine q_icmp_eq C (off := 12) 22 hm (by decide +kernel) (by decide) (fun _ hm => ?_) (fun _ hm => ?_)
  · refine q_iload_n C (k4 := 1) 1 rfl (by decide +kernel) ?_
    refine q_bipush C (n := 12) (v := 12) (by decide) (by decide +kernel) ?_
    refine q_icmp_lt C (off := 12) 37 hm (by decide +kernel) (by decide) (fun _ hm => ?_) (fun _ hm => ?_)
    · refine q_aload_n C (k4 := 0) 0 rfl (by decide +kernel) ?_
      refine q_vvS C Rm (As := []) (rest := []) Y_X7_mark Yv_X7_mark ml_X7_50 (by decide) (by decide) hm (fun h4 e9 => c_X7_mark _ _ _ _ _ _ _ e9) rfl rfl (Nat.le_of_ble_eq_true rfl) (by decide +kernel) (fun h4 hm => ?_)
      refine q_aload_n C (k4 := 0) 0 rfl (by decide +kernel) ?_
      refine q_getn C fl_7_9 hm (by decide +kernel) (fun v5 hm => ?_)
      refine q_vvS C Rm (As := []) (rest := []) Y_X3_next Yv_X3_next ml_X7_73 (by decide) (by decide) hm (fun h7 e9 => c_X3_next _ _ _ _ _ _ _ e9) rfl rfl (Nat.le_of_ble_eq_true rfl) (by decide +kernel) (fun h7 hm => ?_)
      refine q_aload_n C (k4 := 0) 0 rfl (by decide +kernel) ?_
      refine q_vvS C Rm (As := []) (rest := []) Y_X7_readSum Yv_X7_readSum ml_X7_76 (by decide) (by decide) hm (fun h9 e9 => c_X7_readSum _ _ _ _ _ _ _ e9) rfl rfl (Nat.le_of_ble_eq_true rfl) (by decide +kernel) (fun h9 hm => ?_)
      refine q_aload_n C (k4 := 0) 0 rfl (by decide +kernel) ?_
      refine q_vvS C Rm (As := []) (rest := []) Y_X7_mark Yv_X7_mark ml_X7_50 (by decide) (by decide) hm (fun h11 e9 => c_X7_mark _ _ _ _ _ _ _ e9) rfl rfl (Nat.le_of_ble_eq_true rfl) (by decide +kernel) (fun h11 hm => ?_)
      refine q_aload_n C (k4 := 0) 0 rfl (by decide +kernel) ?_
      refine q_getn C fl_7_9 hm (by decide +kernel) (fun v12 hm => ?_)
      refine q_geti C fl_7_53 hm (by decide +kernel) (fun v13 hm => ?_)
      refine q_if_ne C (off := 27) 90 hm (by decide +kernel) (by decide) (fun _ hm => ?_) (fun _ hm => ?_)
      · refine q_loc [0] rfl ?_
        exact v_X7_readClause_90 C Rm K _ _ hm
      · refine q_aload_n C (k4 := 0) 0 rfl (by decide +kernel) ?_
        refine q_getn C fl_7_9 hm (by decide +kernel) (fun v14 hm => ?_)
        refine q_geti C fl_7_67 hm (by decide +kernel) (fun v15 hm => ?_)
        refine q_sipush C (n := 713) (v := 713) (by decide) (by decide +kernel) ?_
        refine q_icmp_ne C (off := 14) 90 hm (by decide +kernel) (by decide) (fun _ hm => ?_) (fun _ hm => ?_)
        · refine q_loc [0] rfl ?_
          exact v_X7_readClause_90 C Rm K _ _ hm
        · refine q_aload_n C (k4 := 0) 0 rfl (by decide +kernel) ?_
          refine q_getn C fl_7_9 hm (by decide +kernel) (fun v16 hm => ?_)
          refine q_vvS C Rm (As := []) (rest := []) Y_X3_next Yv_X3_next ml_X7_73 (by decide) (by decide) hm (fun h18 e9 => c_X3_next _ _ _ _ _ _ _ e9) rfl rfl (Nat.le_of_ble_eq_true rfl) (by decide +kernel) (fun h18 hm => ?_)
          refine q_aload_n C (k4 := 0) 0 rfl (by decide +kernel) ?_
          refine q_vvS C Rm (As := []) (rest := []) Y_X7_readTest Yv_X7_readTest ml_X7_79 (by decide) (by decide) hm (fun h20 e9 => c_X7_readTest _ _ _ _ _ _ _ e9) rfl rfl (Nat.le_of_ble_eq_true rfl) (by decide +kernel) (fun h20 hm => ?_)
          refine q_loc [0] rfl ?_
          exact v_X7_readClause_90 C Rm K _ _ hm
    · refine q_aload_n C (k4 := 0) 0 rfl (by decide +kernel) ?_
      refine q_getn C fl_7_9 hm (by decide +kernel) (fun v21 hm => ?_)
      refine q_iconst C (n := 4) (v := 4) (by decide) (by decide +kernel) ?_
      refine q_viS C Rm (As := [.int ((4 : Int32))]) (rest := []) Y_X3_refuse Yv_X3_refuse ml_X7_70 (by decide) (by decide) hm (fun r22 h23 e9 => c_X3_refuse _ _ _ _ _ _ _ _ e9) rfl rfl (Nat.le_of_ble_eq_true rfl) (by decide +kernel) (fun r22 h23 hm z24 => ?_)
      exact q_riS hm K z24 (by decide +kernel)
  · refine q_aload_n C (k4 := 0) 0 rfl (by decide +kernel) ?_
    refine q_getn C fl_7_9 hm (by decide +kernel) (fun v25 hm => ?_)
    refine q_iconst C (n := 0) (v := 0) (by decide) (by decide +kernel) ?_
    refine q_viS C Rm (As := [.int ((0 : Int32))]) (rest := []) Y_X3_refuse Yv_X3_refuse ml_X7_70 (by decide) (by decide) hm (fun r26 h27 e9 => c_X3_refuse _ _ _ _ _ _ _ _ e9) rfl rfl (Nat.le_of_ble_eq_true rfl) (by decide +kernel) (fun r26 h27 hm z28 => ?_)
    exact q_riS hm K z28 (by decide +kernel)
def m_X8_ruleAt_13  (h0 : q_H) : Option (Option Nat) :=
  some none
set_option maxRecDepth 20000 in
set_option maxHeartbeats 1000000 in
theorem v_X8_ruleAt_13 {Γ : q_G} {sz : Nat} {h0 : q_H} {r : Option Nat} (C : q_C Γ cX8_ruleAt RX8) (Rm : q_Rm Γ 2 0 0 0 0)  (K : q_K Γ cX8_ruleAt .areturn sz h0 0 0 [va_rf r])  : m_X8_ruleAt_13 h0 = some r → q_V Γ sz 0 0 h0 [] [] 13 := by
  intro  hm
  unfold m_X8_ruleAt_13 at hm
  refine q_null C (by decide +kernel) ?_
  refine q_goto C (off := 9) 23 (by decide +kernel) (by decide) ?_
  exact q_roP hm K (by decide +kernel)
def m_X8_ruleAt (h0 : q_H) (a0 : Nat) (a1 : Int32) : Option (Option Nat) :=
  if a1 < 0 then
    m_X8_ruleAt_13 h0
  else
    (q_gn h0 a0 8 1).bind fun v1 =>
    (q_ln h0 v1).bind fun v2 =>
    if a1 < v2 then
      (q_gn h0 a0 8 1).bind fun v3 =>
      (q_ar h0 v3 5 a1).bind fun v4 =>
      some v4
    else
      m_X8_ruleAt_13 h0
set_option maxRecDepth 20000 in
set_option maxHeartbeats 1000000 in
theorem c_X8_ruleAt (l : Launch) (base : Nat) (D : va_G) (tc : Nat → ClassId) (sz : Nat) (h0 : q_H) (a0 : Nat) (a1 : Int32) {r : Option Nat} (hm : m_X8_ruleAt h0 a0 a1 = some r) : q_M l yX8_ruleAt cX8_ruleAt 2 (some (.object "TugRope$Rule")) 0 0 0 0 base D tc [.ref a0, .int a1] sz h0 (some (va_rf r)) sz h0 := by
  refine q_starta (Or.inl ⟨_, rfl⟩) (by decide) (Nat.le_of_ble_eq_true rfl) (fun Γ B K => ?_)
  obtain ⟨C, Rm, -⟩ := B
  have C : q_C Γ cX8_ruleAt RX8 := C
  show q_V Γ sz 0 0 h0 [(0, .ref a0), (1, .int a1)] [] 0
  unfold m_X8_ruleAt at hm
  refine q_iload_n C (k4 := 1) 1 rfl (by decide +kernel) ?_
  refine q_if_lt C (off := 12) 13 hm (by decide +kernel) (by decide) (fun _ hm => ?_) (fun _ hm => ?_)
  · refine q_loc [] rfl ?_
    exact v_X8_ruleAt_13 C Rm K  hm
  · refine q_iload_n C (k4 := 1) 1 rfl (by decide +kernel) ?_
    refine q_aload_n C (k4 := 0) 0 rfl (by decide +kernel) ?_
    refine q_getn C fl_8_15 hm (by decide +kernel) (fun v1 hm => ?_)
    refine q_len C hm (by decide +kernel) (fun v2 hm => ?_)
    refine q_icmp_lt C (off := 7) 17 hm (by decide +kernel) (by decide) (fun _ hm => ?_) (fun _ hm => ?_)
    · refine q_aload_n C (k4 := 0) 0 rfl (by decide +kernel) ?_
      refine q_getn C fl_8_15 hm (by decide +kernel) (fun v3 hm => ?_)
      refine q_iload_n C (k4 := 1) 1 rfl (by decide +kernel) ?_
      refine q_rr C (ty := (.object "TugRope$Rule")) (fun _ => rfl) rfl hm (by decide +kernel) (fun v4 hm => ?_)
      exact q_roP hm K (by decide +kernel)
    · refine q_loc [] rfl ?_
      exact v_X8_ruleAt_13 C Rm K  hm
def m_X8_ruleInForce (h0 : q_H) (a0 : Nat) : Option (Option Nat) :=
  (q_gn h0 a0 8 0).bind fun v1 =>
  (q_gi h0 v1 0 2).bind fun v2 =>
  (q_ca 8 h0 a0 (m_X8_ruleAt h0 a0 v2)).bind fun r3 =>
  some r3
set_option maxRecDepth 20000 in
set_option maxHeartbeats 1000000 in
theorem c_X8_ruleInForce (l : Launch) (base : Nat) (D : va_G) (tc : Nat → ClassId) (sz : Nat) (h0 : q_H) (a0 : Nat) {r : Option Nat} (hm : m_X8_ruleInForce h0 a0 = some r) : q_M l yX8_ruleInForce cX8_ruleInForce 1 (some (.object "TugRope$Rule")) 1 21 0 0 base D tc [.ref a0] sz h0 (some (va_rf r)) sz h0 := by
  refine q_starta (Or.inl ⟨_, rfl⟩) (by decide) (Nat.le_of_ble_eq_true rfl) (fun Γ B K => ?_)
  obtain ⟨C, Rm, -⟩ := B
  have C : q_C Γ cX8_ruleInForce RX8 := C
  show q_V Γ sz 0 0 h0 [(0, .ref a0)] [] 0
  unfold m_X8_ruleInForce at hm
  refine q_aload_n C (k4 := 0) 0 rfl (by decide +kernel) ?_
  refine q_aload_n C (k4 := 0) 0 rfl (by decide +kernel) ?_
  refine q_getn C fl_8_9 hm (by decide +kernel) (fun v1 hm => ?_)
  refine q_geti C fl_8_53 hm (by decide +kernel) (fun v2 hm => ?_)
  refine q_voP C Rm (As := [.int v2]) (rest := []) Y_X8_ruleAt Yv_X8_ruleAt ml_X8_59 (by decide) (by decide) hm (fun r9 e9 => c_X8_ruleAt _ _ _ _ _ _ _ _ e9) rfl rfl (Nat.le_of_ble_eq_true rfl) (by decide +kernel) (fun r3 hm => ?_)
  exact q_roP hm K (by decide +kernel)
def m_X8_startFromNow (h : q_H) (a0 : Nat) : Option q_H :=
  (q_gn h a0 8 2).bind fun v1 =>
  (q_gn h a0 8 0).bind fun v2 =>
  (q_gn h v2 0 0).bind fun v3 =>
  (q_ca 8 h a0 (m_X8_ruleInForce h a0)).bind fun r4 =>
  (q_ca 1 h v1 (m_X1_takeUp h v1 v3 r4)).bind fun h6 =>
  (q_gn h6 a0 8 3).bind fun v7 =>
  (q_gn h6 a0 8 0).bind fun v8 =>
  (q_gn h6 v8 0 1).bind fun v9 =>
  (q_ca 10 h6 v7 (m_X10_copyFrom h6 v7 v9)).bind fun h11 =>
  some h11
set_option maxRecDepth 20000 in
set_option maxHeartbeats 1000000 in
theorem c_X8_startFromNow (l : Launch) (base : Nat) (D : va_G) (tc : Nat → ClassId) (sz : Nat) (h : q_H) (a0 : Nat) {h' : q_H} (hm : m_X8_startFromNow h a0 = some h') : q_M l yX8_startFromNow cX8_startFromNow 1 none 4 101 0 0 base D tc [.ref a0] sz h none sz h' := by
  refine q_startv (by decide) (Nat.le_of_ble_eq_true rfl) (fun Γ B K => ?_)
  obtain ⟨C, Rm, -⟩ := B
  have C : q_C Γ cX8_startFromNow RX8 := C
  show q_V Γ sz 0 0 h [(0, .ref a0)] [] 0
  unfold m_X8_startFromNow at hm
  refine q_aload_n C (k4 := 0) 0 rfl (by decide +kernel) ?_
  refine q_getn C fl_8_19 hm (by decide +kernel) (fun v1 hm => ?_)
  refine q_aload_n C (k4 := 0) 0 rfl (by decide +kernel) ?_
  refine q_getn C fl_8_9 hm (by decide +kernel) (fun v2 hm => ?_)
  refine q_getn C fl_8_63 hm (by decide +kernel) (fun v3 hm => ?_)
  refine q_aload_n C (k4 := 0) 0 rfl (by decide +kernel) ?_
  refine q_voP C Rm (As := []) (rest := [.ref v3, .ref v1]) Y_X8_ruleInForce Yv_X8_ruleInForce ml_X8_66 (by decide) (by decide) hm (fun r9 e9 => c_X8_ruleInForce _ _ _ _ _ _ _ e9) rfl rfl (Nat.le_of_ble_eq_true rfl) (by decide +kernel) (fun r4 hm => ?_)
  refine q_vvS C Rm (As := [.ref v3, va_rf r4]) (rest := []) Y_X1_takeUp Yv_X1_takeUp ml_X8_70 (by decide) (by decide) hm (fun h6 e9 => c_X1_takeUp _ _ _ _ _ _ _ _ _ e9) rfl rfl (Nat.le_of_ble_eq_true rfl) (by decide +kernel) (fun h6 hm => ?_)
  refine q_aload_n C (k4 := 0) 0 rfl (by decide +kernel) ?_
  refine q_getn C fl_8_26 hm (by decide +kernel) (fun v7 hm => ?_)
  refine q_aload_n C (k4 := 0) 0 rfl (by decide +kernel) ?_
  refine q_getn C fl_8_9 hm (by decide +kernel) (fun v8 hm => ?_)
  refine q_getn C fl_8_76 hm (by decide +kernel) (fun v9 hm => ?_)
  refine q_vvS C Rm (As := [.ref v9]) (rest := []) Y_X10_copyFrom Yv_X10_copyFrom ml_X8_79 (by decide) (by decide) hm (fun h11 e9 => c_X10_copyFrom _ _ _ _ _ _ _ _ e9) rfl rfl (Nat.le_of_ble_eq_true rfl) (by decide +kernel) (fun h11 hm => ?_)
  exact q_rvS hm K (by decide +kernel)
def m_X8_lookAhead (h : q_H) (a0 : Nat) (a1 : Int32) (a2 : Int32) (a3 : Int32) : Option (Int32 × q_H) :=
  (q_ca 8 h a0 (m_X8_startFromNow h a0)).bind fun h2 =>
  (q_gn h2 a0 8 2).bind fun v3 =>
  (q_gn h2 a0 8 3).bind fun v4 =>
  (q_ca 1 h2 v3 (m_X1_heaveOn h2 v3 v4 a2)).bind fun h6 =>
  if a3 = 0 then
    (q_gn h6 a0 8 3).bind fun v12 =>
    (q_gi h6 v12 10 0).bind fun v13 =>
    some ((v13 + (100 : Int32)), h6)
  else
    if a3 = (1 : Int32) then
      (q_gn h6 a0 8 3).bind fun v9 =>
      (q_gn h6 v9 10 5).bind fun v10 =>
      (q_ai h6 v10 1 a1).bind fun v11 =>
      some (v11, h6)
    else
      (q_gn h6 a0 8 3).bind fun v7 =>
      (q_gi h6 v7 10 2).bind fun v8 =>
      some (v8, h6)
set_option maxRecDepth 20000 in
set_option maxHeartbeats 1000000 in
theorem c_X8_lookAhead (l : Launch) (base : Nat) (D : va_G) (tc : Nat → ClassId) (sz : Nat) (h : q_H) (a0 : Nat) (a1 : Int32) (a2 : Int32) (a3 : Int32) {r : Int32} {h' : q_H} (hm : m_X8_lookAhead h a0 a1 a2 a3 = some (r, h')) : q_M l yX8_lookAhead cX8_lookAhead 4 (some .int) 5 131 0 0 base D tc [.ref a0, .int a1, .int a2, .int a3] sz h (some (.int r)) sz h' := by
  refine q_starti (by decide) (Nat.le_of_ble_eq_true rfl) (fun Γ B K => ?_)
  obtain ⟨C, Rm, -⟩ := B
  have C : q_C Γ cX8_lookAhead RX8 := C
  show q_V Γ sz 0 0 h [(0, .ref a0), (1, .int a1), (2, .int a2), (3, .int a3)] [] 0
  unfold m_X8_lookAhead at hm
  refine q_aload_n C (k4 := 0) 0 rfl (by decide +kernel) ?_
  refine q_vvS C Rm (As := []) (rest := []) Y_X8_startFromNow Yv_X8_startFromNow ml_X8_83 (by decide) (by decide) hm (fun h2 e9 => c_X8_startFromNow _ _ _ _ _ _ _ e9) rfl rfl (Nat.le_of_ble_eq_true rfl) (by decide +kernel) (fun h2 hm => ?_)
  refine q_aload_n C (k4 := 0) 0 rfl (by decide +kernel) ?_
  refine q_getn C fl_8_19 hm (by decide +kernel) (fun v3 hm => ?_)
  refine q_aload_n C (k4 := 0) 0 rfl (by decide +kernel) ?_
  refine q_getn C fl_8_26 hm (by decide +kernel) (fun v4 hm => ?_)
  refine q_iload_n C (k4 := 2) 2 rfl (by decide +kernel) ?_
  refine q_vvS C Rm (As := [.ref v4, .int a2]) (rest := []) Y_X1_heaveOn Yv_X1_heaveOn ml_X8_86 (by decide) (by decide) hm (fun h6 e9 => c_X1_heaveOn _ _ _ _ _ _ _ _ _ e9) rfl rfl (Nat.le_of_ble_eq_true rfl) (by decide +kernel) (fun h6 hm => ?_)
  refine q_iload_n C (k4 := 3) 3 rfl (by decide +kernel) ?_
  refine q_if_ne C (off := 14) 31 hm (by decide +kernel) (by decide) (fun _ hm => ?_) (fun _ hm => ?_)
  · refine q_iload_n C (k4 := 3) 3 rfl (by decide +kernel) ?_
    refine q_iconst C (n := 1) (v := 1) (by decide) (by decide +kernel) ?_
    refine q_icmp_ne C (off := 15) 48 hm (by decide +kernel) (by decide) (fun _ hm => ?_) (fun _ hm => ?_)
    · refine q_aload_n C (k4 := 0) 0 rfl (by decide +kernel) ?_
      refine q_getn C fl_8_26 hm (by decide +kernel) (fun v7 hm => ?_)
      refine q_geti C fl_8_96 hm (by decide +kernel) (fun v8 hm => ?_)
      exact q_riS hm K rfl (by decide +kernel)
    · refine q_aload_n C (k4 := 0) 0 rfl (by decide +kernel) ?_
      refine q_getn C fl_8_26 hm (by decide +kernel) (fun v9 hm => ?_)
      refine q_getn C fl_8_93 hm (by decide +kernel) (fun v10 hm => ?_)
      refine q_iload_n C (k4 := 1) 1 rfl (by decide +kernel) ?_
      refine q_ir C hm (by decide +kernel) (fun v11 hm => ?_)
      refine q_goto C (off := 10) 55 (by decide +kernel) (by decide) ?_
      exact q_riS hm K rfl (by decide +kernel)
  · refine q_aload_n C (k4 := 0) 0 rfl (by decide +kernel) ?_
    refine q_getn C fl_8_26 hm (by decide +kernel) (fun v12 hm => ?_)
    refine q_geti C fl_8_90 hm (by decide +kernel) (fun v13 hm => ?_)
    refine q_bipush C (n := 100) (v := 100) (by decide) (by decide +kernel) ?_
    refine q_iadd C (by decide +kernel) ?_
    exact q_riS hm K rfl (by decide +kernel)
def m_X8_findEnd_6  : Nat → q_H → Nat → Int32 → Int32 → Option (Int32 × q_H)
  | 0, _, _, _, _ => none
  | n + 1, h, x0, x1, x2 =>
    if (200 : Int32) ≤ x2 then
      some ((-2 : Int32), h)
    else
      (q_gn h x0 8 2).bind fun v3 =>
      (q_gn h x0 8 3).bind fun v4 =>
      (q_ca 1 h v3 (m_X1_heaveOn h v3 v4 ((1 : Int32)))).bind fun h6 =>
      (q_gn h6 x0 8 3).bind fun v7 =>
      (q_gn h6 x0 8 0).bind fun v8 =>
      (q_gn h6 v8 0 0).bind fun v9 =>
      (q_gi h6 v9 4 0).bind fun v10 =>
      (q_ca 10 h6 v7 (m_X10_isOver h6 v7 v10)).bind fun r11 =>
      if r11 = 0 then
        m_X8_findEnd_6 n h6 x0 x1 ((x2 + (1 : Int32)))
      else
        if x1 = 0 then
          (q_gn h6 x0 8 0).bind fun v15 =>
          (q_gn h6 v15 0 1).bind fun v16 =>
          (q_gi h6 v16 10 1).bind fun v17 =>
          some ((v17 + x2), h6)
        else
          (q_gn h6 x0 8 3).bind fun v13 =>
          (q_gi h6 v13 10 0).bind fun v14 =>
          if 0 ≤ v14 then
            some ((1 : Int32), h6)
          else
            some ((0 : Int32), h6)
set_option maxRecDepth 20000 in
set_option maxHeartbeats 1000000 in
theorem v_X8_findEnd_6 {Γ : q_G} {sz : Nat} {r : Int32} {h' : q_H} (C : q_C Γ cX8_findEnd RX8) (Rm : q_Rm Γ 3 5 131 0 0)  (K : narrow .int (.int r) = .int r → q_K Γ cX8_findEnd .ireturn sz h' 0 0 [.int r])  : ∀ (n : Nat) (h : q_H) (x0 : Nat) (x1 : Int32) (x2 : Int32), m_X8_findEnd_6 n h x0 x1 x2 = some (r, h') → q_V Γ sz 0 0 h [(0, .ref x0), (1, .int x1), (2, .int x2)] [] 6 := by
  intro n
  induction n with
  | zero => intro h x0 x1 x2 hm; cases hm
  | succ n ih =>
    intro h x0 x1 x2 hm
    unfold m_X8_findEnd_6 at hm
    refine q_iload_n C (k4 := 2) 2 rfl (by decide +kernel) ?_
    refine q_sipush C (n := 200) (v := 200) (by decide) (by decide +kernel) ?_
    refine q_icmp_ge C (off := 76) 86 hm (by decide +kernel) (by decide) (fun _ hm => ?_) (fun _ hm => ?_)
    · refine q_bipush C (n := (-2)) (v := (-2)) (by decide) (by decide +kernel) ?_
      exact q_riS hm K rfl (by decide +kernel)
    · refine q_aload_n C (k4 := 0) 0 rfl (by decide +kernel) ?_
      refine q_getn C fl_8_19 hm (by decide +kernel) (fun v3 hm => ?_)
      refine q_aload_n C (k4 := 0) 0 rfl (by decide +kernel) ?_
      refine q_getn C fl_8_26 hm (by decide +kernel) (fun v4 hm => ?_)
      refine q_iconst C (n := 1) (v := 1) (by decide) (by decide +kernel) ?_
      refine q_vvS C Rm (As := [.ref v4, .int ((1 : Int32))]) (rest := []) Y_X1_heaveOn Yv_X1_heaveOn ml_X8_86 (by decide) (by decide) hm (fun h6 e9 => c_X1_heaveOn _ _ _ _ _ _ _ _ _ e9) rfl rfl (Nat.le_of_ble_eq_true rfl) (by decide +kernel) (fun h6 hm => ?_)
      refine q_aload_n C (k4 := 0) 0 rfl (by decide +kernel) ?_
      refine q_getn C fl_8_26 hm (by decide +kernel) (fun v7 hm => ?_)
      refine q_aload_n C (k4 := 0) 0 rfl (by decide +kernel) ?_
      refine q_getn C fl_8_9 hm (by decide +kernel) (fun v8 hm => ?_)
      refine q_getn C fl_8_63 hm (by decide +kernel) (fun v9 hm => ?_)
      refine q_geti C fl_8_99 hm (by decide +kernel) (fun v10 hm => ?_)
      refine q_viP C Rm (As := [.int v10]) (rest := []) Y_X10_isOver Yv_X10_isOver ml_X8_102 (by decide) (by decide) hm (fun r9 e9 => c_X10_isOver _ _ _ _ _ _ _ _ e9) rfl rfl (Nat.le_of_ble_eq_true rfl) (by decide +kernel) (fun r11 hm z12 => ?_)
      refine q_if_eq C (off := 38) 80 hm (by decide +kernel) (by decide) (fun _ hm => ?_) (fun _ hm => ?_)
      · refine q_iinc C Rm.1 (i := 2) (n := 1) (v := (x2 + (1 : Int32))) 2 rfl (q_inc _ (by decide)) (lv' := [(2, .int ((x2 + (1 : Int32)))), (0, .ref x0), (1, .int x1)]) rfl (by decide) (by decide +kernel) ?_
        refine q_goto C (off := -77) 6 (by decide +kernel) (by decide) ?_
        refine q_loc [1, 2, 0] rfl ?_
        exact ih _ _ _ _ hm
      · refine q_iload_n C (k4 := 1) 1 rfl (by decide +kernel) ?_
        refine q_if_ne C (off := 18) 64 hm (by decide +kernel) (by decide) (fun _ hm => ?_) (fun _ hm => ?_)
        · refine q_aload_n C (k4 := 0) 0 rfl (by decide +kernel) ?_
          refine q_getn C fl_8_26 hm (by decide +kernel) (fun v13 hm => ?_)
          refine q_geti C fl_8_90 hm (by decide +kernel) (fun v14 hm => ?_)
          refine q_if_ge C (off := 7) 78 hm (by decide +kernel) (by decide) (fun _ hm => ?_) (fun _ hm => ?_)
          · refine q_iconst C (n := 1) (v := 1) (by decide) (by decide +kernel) ?_
            exact q_riS hm K rfl (by decide +kernel)
          · refine q_iconst C (n := 0) (v := 0) (by decide) (by decide +kernel) ?_
            refine q_goto C (off := 4) 79 (by decide +kernel) (by decide) ?_
            exact q_riS hm K rfl (by decide +kernel)
        · refine q_aload_n C (k4 := 0) 0 rfl (by decide +kernel) ?_
          refine q_getn C fl_8_9 hm (by decide +kernel) (fun v15 hm => ?_)
          refine q_getn C fl_8_76 hm (by decide +kernel) (fun v16 hm => ?_)
          refine q_geti C fl_8_106 hm (by decide +kernel) (fun v17 hm => ?_)
          refine q_iload_n C (k4 := 2) 2 rfl (by decide +kernel) ?_
          refine q_iadd C (by decide +kernel) ?_
          refine q_goto C (off := 18) 79 (by decide +kernel) (by decide) ?_
          exact q_riS hm K rfl (by decide +kernel)
def m_X8_findEnd (h : q_H) (a0 : Nat) (a1 : Int32) : Option (Int32 × q_H) :=
  (q_ca 8 h a0 (m_X8_startFromNow h a0)).bind fun h2 =>
  m_X8_findEnd_6 q_fu h2 a0 a1 ((0 : Int32))
set_option maxRecDepth 20000 in
set_option maxHeartbeats 1000000 in
theorem c_X8_findEnd (l : Launch) (base : Nat) (D : va_G) (tc : Nat → ClassId) (sz : Nat) (h : q_H) (a0 : Nat) (a1 : Int32) {r : Int32} {h' : q_H} (hm : m_X8_findEnd h a0 a1 = some (r, h')) : q_M l yX8_findEnd cX8_findEnd 3 (some .int) 5 131 0 0 base D tc [.ref a0, .int a1] sz h (some (.int r)) sz h' := by
  refine q_starti (by decide) (Nat.le_of_ble_eq_true rfl) (fun Γ B K => ?_)
  obtain ⟨C, Rm, -⟩ := B
  have C : q_C Γ cX8_findEnd RX8 := C
  show q_V Γ sz 0 0 h [(0, .ref a0), (1, .int a1)] [] 0
  unfold m_X8_findEnd at hm
  refine q_aload_n C (k4 := 0) 0 rfl (by decide +kernel) ?_
  refine q_vvS C Rm (As := []) (rest := []) Y_X8_startFromNow Yv_X8_startFromNow ml_X8_83 (by decide) (by decide) hm (fun h2 e9 => c_X8_startFromNow _ _ _ _ _ _ _ e9) rfl rfl (Nat.le_of_ble_eq_true rfl) (by decide +kernel) (fun h2 hm => ?_)
  refine q_iconst C (n := 0) (v := 0) (by decide) (by decide +kernel) ?_
  refine q_istore_n C Rm.1 (k4 := 2) (i := 2) rfl (lv' := [(2, .int ((0 : Int32))), (0, .ref a0), (1, .int a1)]) rfl (by decide) (by decide +kernel) ?_
  refine q_loc [1, 2, 0] rfl ?_
  exact v_X8_findEnd_6 C Rm K _ _ _ _ _ hm
def m_X8_effortIn (a0 : Int32) (a1 : Int32) (a2 : Int32) : Option Int32 :=
  some (((a0 >>> (((2 : Int32) * (a1 - a2)) &&& 31)) &&& (3 : Int32)))
set_option maxRecDepth 20000 in
set_option maxHeartbeats 1000000 in
theorem c_X8_effortIn (l : Launch) (base : Nat) (D : va_G) (tc : Nat → ClassId) (sz : Nat) (h0 : q_H) (a0 : Int32) (a1 : Int32) (a2 : Int32) {r : Int32} (hm : m_X8_effortIn a0 a1 a2 = some r) : q_M l yX8_effortIn cX8_effortIn 3 (some .int) 0 0 0 0 base D tc [.int a0, .int a1, .int a2] sz h0 (some (.int r)) sz h0 := by
  refine q_starti (by decide) (Nat.le_of_ble_eq_true rfl) (fun Γ B K => ?_)
  obtain ⟨C, Rm, -⟩ := B
  have C : q_C Γ cX8_effortIn RX8 := C
  show q_V Γ sz 0 0 h0 [(0, .int a0), (1, .int a1), (2, .int a2)] [] 0
  unfold m_X8_effortIn at hm
  refine q_iload_n C (k4 := 0) 0 rfl (by decide +kernel) ?_
  refine q_iconst C (n := 2) (v := 2) (by decide) (by decide +kernel) ?_
  refine q_iload_n C (k4 := 1) 1 rfl (by decide +kernel) ?_
  refine q_iload_n C (k4 := 2) 2 rfl (by decide +kernel) ?_
  refine q_isub C (by decide +kernel) ?_
  refine q_imul C (by decide +kernel) ?_
  refine q_ishr C (by decide +kernel) ?_
  refine q_iconst C (n := 3) (v := 3) (by decide) (by decide +kernel) ?_
  refine q_iand C (by decide +kernel) ?_
  exact q_riP hm K rfl (by decide +kernel)
def m_X8_farByRow_7  : Nat → q_H → Nat → Int32 → Int32 → Int32 → Int32 → Option (Int32 × q_H)
  | 0, _, _, _, _, _, _ => none
  | n + 1, h, x0, x1, x2, x3, x4 =>
    if x2 < x4 then
      (q_gn h x0 8 3).bind fun v3 =>
      (q_gn h x0 8 3).bind fun v4 =>
      (q_gn h v4 10 3).bind fun v5 =>
      (q_ai h v5 1 x1).bind fun v6 =>
      (q_ca 10 h v3 (m_X10_towards h v3 v6)).bind fun r7 =>
      some (r7, h)
    else
      (q_gn h x0 8 2).bind fun v9 =>
      (m_X8_effortIn x3 x2 x4).bind fun r10 =>
      (q_ca 1 h v9 (m_X1_fix h v9 x1 r10)).bind fun h13 =>
      (q_gn h13 x0 8 2).bind fun v14 =>
      (q_gn h13 x0 8 3).bind fun v15 =>
      (q_ca 1 h13 v14 (m_X1_heaveOn h13 v14 v15 ((1 : Int32)))).bind fun h17 =>
      m_X8_farByRow_7 n h17 x0 x1 x2 x3 ((x4 + (1 : Int32)))
set_option maxRecDepth 20000 in
set_option maxHeartbeats 1000000 in
theorem v_X8_farByRow_7 {Γ : q_G} {sz : Nat} {r : Int32} {h' : q_H} (C : q_C Γ cX8_farByRow RX8) (Rm : q_Rm Γ 5 5 131 0 0)  (K : narrow .int (.int r) = .int r → q_K Γ cX8_farByRow .ireturn sz h' 0 0 [.int r])  : ∀ (n : Nat) (h : q_H) (x0 : Nat) (x1 : Int32) (x2 : Int32) (x3 : Int32) (x4 : Int32), m_X8_farByRow_7 n h x0 x1 x2 x3 x4 = some (r, h') → q_V Γ sz 0 0 h [(0, .ref x0), (1, .int x1), (2, .int x2), (3, .int x3), (4, .int x4)] [] 7 := by
  intro n
  induction n with
  | zero => intro h x0 x1 x2 x3 x4 hm; cases hm
  | succ n ih =>
    intro h x0 x1 x2 x3 x4 hm
    unfold m_X8_farByRow_7 at hm
    refine q_iload C (i := 4) 4 rfl (by decide +kernel) ?_
    refine q_iload_n C (k4 := 2) 2 rfl (by decide +kernel) ?_
    refine q_icmp_gt C (off := 36) 46 hm (by decide +kernel) (by decide) (fun _ hm => ?_) (fun _ hm => ?_)
    · refine q_aload_n C (k4 := 0) 0 rfl (by decide +kernel) ?_
      refine q_getn C fl_8_26 hm (by decide +kernel) (fun v3 hm => ?_)
      refine q_aload_n C (k4 := 0) 0 rfl (by decide +kernel) ?_
      refine q_getn C fl_8_26 hm (by decide +kernel) (fun v4 hm => ?_)
      refine q_getn C fl_8_120 hm (by decide +kernel) (fun v5 hm => ?_)
      refine q_iload_n C (k4 := 1) 1 rfl (by decide +kernel) ?_
      refine q_ir C hm (by decide +kernel) (fun v6 hm => ?_)
      refine q_viP C Rm (As := [.int v6]) (rest := []) Y_X10_towards Yv_X10_towards ml_X8_123 (by decide) (by decide) hm (fun r9 e9 => c_X10_towards _ _ _ _ _ _ _ _ e9) rfl rfl (Nat.le_of_ble_eq_true rfl) (by decide +kernel) (fun r7 hm z8 => ?_)
      exact q_riS hm K rfl (by decide +kernel)
    · refine q_aload_n C (k4 := 0) 0 rfl (by decide +kernel) ?_
      refine q_getn C fl_8_19 hm (by decide +kernel) (fun v9 hm => ?_)
      refine q_iload_n C (k4 := 1) 1 rfl (by decide +kernel) ?_
      refine q_iload_n C (k4 := 3) 3 rfl (by decide +kernel) ?_
      refine q_iload_n C (k4 := 2) 2 rfl (by decide +kernel) ?_
      refine q_iload C (i := 4) 4 rfl (by decide +kernel) ?_
      refine q_siP C Rm (As := [.int x3, .int x2, .int x4]) (rest := [.int x1, .ref v9]) Y_X8_effortIn Ys_X8_effortIn ml_X8_113 (by decide) (by decide) hm (fun r9 e9 => c_X8_effortIn _ _ _ _ _ _ _ _ _ e9) rfl rfl (Nat.le_of_ble_eq_true rfl) (by decide +kernel) (fun r10 hm z11 => ?_)
      refine q_vvS C Rm (As := [.int x1, .int r10]) (rest := []) Y_X1_fix Yv_X1_fix ml_X8_116 (by decide) (by decide) hm (fun h13 e9 => c_X1_fix _ _ _ _ _ _ _ _ _ e9) rfl rfl (Nat.le_of_ble_eq_true rfl) (by decide +kernel) (fun h13 hm => ?_)
      refine q_aload_n C (k4 := 0) 0 rfl (by decide +kernel) ?_
      refine q_getn C fl_8_19 hm (by decide +kernel) (fun v14 hm => ?_)
      refine q_aload_n C (k4 := 0) 0 rfl (by decide +kernel) ?_
      refine q_getn C fl_8_26 hm (by decide +kernel) (fun v15 hm => ?_)
      refine q_iconst C (n := 1) (v := 1) (by decide) (by decide +kernel) ?_
      refine q_vvS C Rm (As := [.ref v15, .int ((1 : Int32))]) (rest := []) Y_X1_heaveOn Yv_X1_heaveOn ml_X8_86 (by decide) (by decide) hm (fun h17 e9 => c_X1_heaveOn _ _ _ _ _ _ _ _ _ e9) rfl rfl (Nat.le_of_ble_eq_true rfl) (by decide +kernel) (fun h17 hm => ?_)
      refine q_iinc C Rm.1 (i := 4) (n := 1) (v := (x4 + (1 : Int32))) 4 rfl (q_inc _ (by decide)) (lv' := [(4, .int ((x4 + (1 : Int32)))), (0, .ref x0), (1, .int x1), (2, .int x2), (3, .int x3)]) rfl (by decide) (by decide +kernel) ?_
      refine q_goto C (off := -36) 7 (by decide +kernel) (by decide) ?_
      refine q_loc [1, 2, 3, 4, 0] rfl ?_
      exact ih _ _ _ _ _ _ hm
def m_X8_farByRow (h : q_H) (a0 : Nat) (a1 : Int32) (a2 : Int32) (a3 : Int32) : Option (Int32 × q_H) :=
  (q_ca 8 h a0 (m_X8_startFromNow h a0)).bind fun h2 =>
  m_X8_farByRow_7 q_fu h2 a0 a1 a2 a3 ((1 : Int32))
set_option maxRecDepth 20000 in
set_option maxHeartbeats 1000000 in
theorem c_X8_farByRow (l : Launch) (base : Nat) (D : va_G) (tc : Nat → ClassId) (sz : Nat) (h : q_H) (a0 : Nat) (a1 : Int32) (a2 : Int32) (a3 : Int32) {r : Int32} {h' : q_H} (hm : m_X8_farByRow h a0 a1 a2 a3 = some (r, h')) : q_M l yX8_farByRow cX8_farByRow 5 (some .int) 5 131 0 0 base D tc [.ref a0, .int a1, .int a2, .int a3] sz h (some (.int r)) sz h' := by
  refine q_starti (by decide) (Nat.le_of_ble_eq_true rfl) (fun Γ B K => ?_)
  obtain ⟨C, Rm, -⟩ := B
  have C : q_C Γ cX8_farByRow RX8 := C
  show q_V Γ sz 0 0 h [(0, .ref a0), (1, .int a1), (2, .int a2), (3, .int a3)] [] 0
  unfold m_X8_farByRow at hm
  refine q_aload_n C (k4 := 0) 0 rfl (by decide +kernel) ?_
  refine q_vvS C Rm (As := []) (rest := []) Y_X8_startFromNow Yv_X8_startFromNow ml_X8_83 (by decide) (by decide) hm (fun h2 e9 => c_X8_startFromNow _ _ _ _ _ _ _ e9) rfl rfl (Nat.le_of_ble_eq_true rfl) (by decide +kernel) (fun h2 hm => ?_)
  refine q_iconst C (n := 1) (v := 1) (by decide) (by decide +kernel) ?_
  refine q_istore C Rm.1 (i := 4) (lv' := [(4, .int ((1 : Int32))), (0, .ref a0), (1, .int a1), (2, .int a2), (3, .int a3)]) rfl (by decide) (by decide +kernel) ?_
  refine q_loc [1, 2, 3, 4, 0] rfl ?_
  exact v_X8_farByRow_7 C Rm K _ _ _ _ _ _ _ hm
def m_X8_bestRow_49 (k9 : q_H → Nat → Int32 → Int32 → Int32 → Int32 → Int32 → Int32 → Option (Int32 × q_H)) (h : q_H) (x0 : Nat) (x1 : Int32) (x2 : Int32) (x3 : Int32) (x4 : Int32) (x5 : Int32) (x6 : Int32) : Option (Int32 × q_H) :=
  k9 h x0 x1 x2 x3 x4 x5 ((x6 + (1 : Int32)))
set_option maxRecDepth 20000 in
set_option maxHeartbeats 1000000 in
theorem v_X8_bestRow_49 {Γ : q_G} {sz : Nat} {r : Int32} {h' : q_H} (C : q_C Γ cX8_bestRow RX8) (Rm : q_Rm Γ 8 6 155 0 0) {k9 : q_H → Nat → Int32 → Int32 → Int32 → Int32 → Int32 → Int32 → Option (Int32 × q_H)} (K : narrow .int (.int r) = .int r → q_K Γ cX8_bestRow .ireturn sz h' 0 0 [.int r]) (hk9 : ∀ (h : q_H) (x0 : Nat) (x1 : Int32) (x2 : Int32) (x3 : Int32) (x4 : Int32) (x5 : Int32) (x6 : Int32), k9 h x0 x1 x2 x3 x4 x5 x6 = some (r, h') → q_V Γ sz 0 0 h [(0, .ref x0), (1, .int x1), (2, .int x2), (3, .int x3), (4, .int x4), (5, .int x5), (6, .int x6)] [] 9) : ∀ (h : q_H) (x0 : Nat) (x1 : Int32) (x2 : Int32) (x3 : Int32) (x4 : Int32) (x5 : Int32) (x6 : Int32), m_X8_bestRow_49 k9 h x0 x1 x2 x3 x4 x5 x6 = some (r, h') → q_V Γ sz 0 0 h [(0, .ref x0), (1, .int x1), (2, .int x2), (3, .int x3), (4, .int x4), (5, .int x5), (6, .int x6)] [] 49 := by
  intro h x0 x1 x2 x3 x4 x5 x6 hm
  unfold m_X8_bestRow_49 at hm
  refine q_iinc C Rm.1 (i := 6) (n := 1) (v := (x6 + (1 : Int32))) 6 rfl (q_inc _ (by decide)) (lv' := [(6, .int ((x6 + (1 : Int32)))), (0, .ref x0), (1, .int x1), (2, .int x2), (3, .int x3), (4, .int x4), (5, .int x5)]) rfl (by decide) (by decide +kernel) ?_
  refine q_goto C (off := -43) 9 (by decide +kernel) (by decide) ?_
  refine q_loc [1, 2, 3, 4, 5, 6, 0] rfl ?_
  exact hk9 _ _ _ _ _ _ _ _ hm
def m_X8_bestRow_41 (k9 : q_H → Nat → Int32 → Int32 → Int32 → Int32 → Int32 → Int32 → Option (Int32 × q_H)) (h : q_H) (x0 : Nat) (x1 : Int32) (x2 : Int32) (x3 : Int32) (x6 : Int32) (x7 : Int32) : Option (Int32 × q_H) :=
  m_X8_bestRow_49 k9 h x0 x1 x2 x3 x6 x7 x6
set_option maxRecDepth 20000 in
set_option maxHeartbeats 1000000 in
theorem v_X8_bestRow_41 {Γ : q_G} {sz : Nat} {r : Int32} {h' : q_H} (C : q_C Γ cX8_bestRow RX8) (Rm : q_Rm Γ 8 6 155 0 0) {k9 : q_H → Nat → Int32 → Int32 → Int32 → Int32 → Int32 → Int32 → Option (Int32 × q_H)} (K : narrow .int (.int r) = .int r → q_K Γ cX8_bestRow .ireturn sz h' 0 0 [.int r]) (hk9 : ∀ (h : q_H) (x0 : Nat) (x1 : Int32) (x2 : Int32) (x3 : Int32) (x4 : Int32) (x5 : Int32) (x6 : Int32), k9 h x0 x1 x2 x3 x4 x5 x6 = some (r, h') → q_V Γ sz 0 0 h [(0, .ref x0), (1, .int x1), (2, .int x2), (3, .int x3), (4, .int x4), (5, .int x5), (6, .int x6)] [] 9) : ∀ (h : q_H) (x0 : Nat) (x1 : Int32) (x2 : Int32) (x3 : Int32) (x6 : Int32) (x7 : Int32), m_X8_bestRow_41 k9 h x0 x1 x2 x3 x6 x7 = some (r, h') → q_V Γ sz 0 0 h [(0, .ref x0), (1, .int x1), (2, .int x2), (3, .int x3), (6, .int x6), (7, .int x7)] [] 41 := by
  intro h x0 x1 x2 x3 x6 x7 hm
  unfold m_X8_bestRow_41 at hm
  refine q_iload C (i := 6) 4 rfl (by decide +kernel) ?_
  refine q_istore C Rm.1 (i := 4) (lv' := [(4, .int x6), (0, .ref x0), (1, .int x1), (2, .int x2), (3, .int x3), (6, .int x6), (7, .int x7)]) rfl (by decide) (by decide +kernel) ?_
  refine q_iload C (i := 7) 6 rfl (by decide +kernel) ?_
  refine q_istore C Rm.1 (i := 5) (lv' := [(5, .int x7), (4, .int x6), (0, .ref x0), (1, .int x1), (2, .int x2), (3, .int x3), (6, .int x6), (7, .int x7)]) rfl (by decide) (by decide +kernel) ?_
  refine q_loc [2, 3, 4, 5, 1, 0, 6] rfl ?_
  exact v_X8_bestRow_49 C Rm K hk9 _ _ _ _ _ _ _ _ hm
def m_X8_bestRow_9  : Nat → q_H → Nat → Int32 → Int32 → Int32 → Int32 → Int32 → Int32 → Option (Int32 × q_H)
  | 0, _, _, _, _, _, _, _, _ => none
  | n + 1, h, x0, x1, x2, x3, x4, x5, x6 =>
    if ((1 : Int32) <<< (((2 : Int32) * x2) &&& 31)) ≤ x6 then
      if x3 = 0 then
        some ((x5 + (100 : Int32)), h)
      else
        (m_X8_effortIn x4 x2 x3).bind fun r1 =>
        some (r1, h)
    else
      (q_ca 8 h x0 (m_X8_farByRow h x0 x1 x2 x6)).bind fun (r3, h4) =>
      if x6 = 0 then
        m_X8_bestRow_41 (m_X8_bestRow_9 n) h4 x0 x1 x2 x3 x6 r3
      else
        if r3 ≤ x5 then
          m_X8_bestRow_49 (m_X8_bestRow_9 n) h4 x0 x1 x2 x3 x4 x5 x6
        else
          m_X8_bestRow_41 (m_X8_bestRow_9 n) h4 x0 x1 x2 x3 x6 r3
set_option maxRecDepth 20000 in
set_option maxHeartbeats 1000000 in
theorem v_X8_bestRow_9 {Γ : q_G} {sz : Nat} {r : Int32} {h' : q_H} (C : q_C Γ cX8_bestRow RX8) (Rm : q_Rm Γ 8 6 155 0 0)  (K : narrow .int (.int r) = .int r → q_K Γ cX8_bestRow .ireturn sz h' 0 0 [.int r])  : ∀ (n : Nat) (h : q_H) (x0 : Nat) (x1 : Int32) (x2 : Int32) (x3 : Int32) (x4 : Int32) (x5 : Int32) (x6 : Int32), m_X8_bestRow_9 n h x0 x1 x2 x3 x4 x5 x6 = some (r, h') → q_V Γ sz 0 0 h [(0, .ref x0), (1, .int x1), (2, .int x2), (3, .int x3), (4, .int x4), (5, .int x5), (6, .int x6)] [] 9 := by
  intro n
  induction n with
  | zero => intro h x0 x1 x2 x3 x4 x5 x6 hm; cases hm
  | succ n ih =>
    intro h x0 x1 x2 x3 x4 x5 x6 hm
    unfold m_X8_bestRow_9 at hm
    refine q_iload C (i := 6) 6 rfl (by decide +kernel) ?_
    refine q_iconst C (n := 1) (v := 1) (by decide) (by decide +kernel) ?_
    refine q_iconst C (n := 2) (v := 2) (by decide) (by decide +kernel) ?_
    refine q_iload_n C (k4 := 2) 2 rfl (by decide +kernel) ?_
    refine q_imul C (by decide +kernel) ?_
    refine q_ishl C (by decide +kernel) ?_
    refine q_icmp_ge C (off := 39) 55 hm (by decide +kernel) (by decide) (fun _ hm => ?_) (fun _ hm => ?_)
    · refine q_iload_n C (k4 := 3) 3 rfl (by decide +kernel) ?_
      refine q_if_ne C (off := 11) 67 hm (by decide +kernel) (by decide) (fun _ hm => ?_) (fun _ hm => ?_)
      · refine q_iload C (i := 4) 4 rfl (by decide +kernel) ?_
        refine q_iload_n C (k4 := 2) 2 rfl (by decide +kernel) ?_
        refine q_iload_n C (k4 := 3) 3 rfl (by decide +kernel) ?_
        refine q_siP C Rm (As := [.int x4, .int x2, .int x3]) (rest := []) Y_X8_effortIn Ys_X8_effortIn ml_X8_113 (by decide) (by decide) hm (fun r9 e9 => c_X8_effortIn _ _ _ _ _ _ _ _ _ e9) rfl rfl (Nat.le_of_ble_eq_true rfl) (by decide +kernel) (fun r1 hm z2 => ?_)
        exact q_riS hm K rfl (by decide +kernel)
      · refine q_iload C (i := 5) 5 rfl (by decide +kernel) ?_
        refine q_bipush C (n := 100) (v := 100) (by decide) (by decide +kernel) ?_
        refine q_iadd C (by decide +kernel) ?_
        refine q_goto C (off := 10) 74 (by decide +kernel) (by decide) ?_
        exact q_riS hm K rfl (by decide +kernel)
    · refine q_aload_n C (k4 := 0) 0 rfl (by decide +kernel) ?_
      refine q_iload_n C (k4 := 1) 1 rfl (by decide +kernel) ?_
      refine q_iload_n C (k4 := 2) 2 rfl (by decide +kernel) ?_
      refine q_iload C (i := 6) 6 rfl (by decide +kernel) ?_
      refine q_viS C Rm (As := [.int x1, .int x2, .int x6]) (rest := []) Y_X8_farByRow Yv_X8_farByRow ml_X8_109 (by decide) (by decide) hm (fun r3 h4 e9 => c_X8_farByRow _ _ _ _ _ _ _ _ _ _ e9) rfl rfl (Nat.le_of_ble_eq_true rfl) (by decide +kernel) (fun r3 h4 hm z5 => ?_)
      refine q_istore C Rm.1 (i := 7) (lv' := [(7, .int r3), (0, .ref x0), (1, .int x1), (2, .int x2), (3, .int x3), (4, .int x4), (5, .int x5), (6, .int x6)]) rfl (by decide) (by decide +kernel) ?_
      refine q_iload C (i := 6) 7 rfl (by decide +kernel) ?_
      refine q_if_eq C (off := 10) 41 hm (by decide +kernel) (by decide) (fun _ hm => ?_) (fun _ hm => ?_)
      · refine q_loc [1, 2, 3, 4, 7, 0] rfl ?_
        exact v_X8_bestRow_41 C Rm K ih _ _ _ _ _ _ _ hm
      · refine q_iload C (i := 7) 0 rfl (by decide +kernel) ?_
        refine q_iload C (i := 5) 6 rfl (by decide +kernel) ?_
        refine q_icmp_le C (off := 11) 49 hm (by decide +kernel) (by decide) (fun _ hm => ?_) (fun _ hm => ?_)
        · refine q_loc [1, 2, 3, 4, 5, 6, 7] rfl ?_
          exact v_X8_bestRow_49 C Rm K ih _ _ _ _ _ _ _ _ hm
        · refine q_loc [1, 2, 3, 4, 7, 0] rfl ?_
          exact v_X8_bestRow_41 C Rm K ih _ _ _ _ _ _ _ hm
def m_X8_bestRow (h : q_H) (a0 : Nat) (a1 : Int32) (a2 : Int32) (a3 : Int32) : Option (Int32 × q_H) :=
  m_X8_bestRow_9 q_fu h a0 a1 a2 a3 ((0 : Int32)) ((0 : Int32)) ((0 : Int32))
set_option maxRecDepth 20000 in
set_option maxHeartbeats 1000000 in
theorem c_X8_bestRow (l : Launch) (base : Nat) (D : va_G) (tc : Nat → ClassId) (sz : Nat) (h : q_H) (a0 : Nat) (a1 : Int32) (a2 : Int32) (a3 : Int32) {r : Int32} {h' : q_H} (hm : m_X8_bestRow h a0 a1 a2 a3 = some (r, h')) : q_M l yX8_bestRow cX8_bestRow 8 (some .int) 6 155 0 0 base D tc [.ref a0, .int a1, .int a2, .int a3] sz h (some (.int r)) sz h' := by
  refine q_starti (by decide) (Nat.le_of_ble_eq_true rfl) (fun Γ B K => ?_)
  obtain ⟨C, Rm, -⟩ := B
  have C : q_C Γ cX8_bestRow RX8 := C
  show q_V Γ sz 0 0 h [(0, .ref a0), (1, .int a1), (2, .int a2), (3, .int a3)] [] 0
  unfold m_X8_bestRow at hm
  refine q_iconst C (n := 0) (v := 0) (by decide) (by decide +kernel) ?_
  refine q_istore C Rm.1 (i := 4) (lv' := [(4, .int ((0 : Int32))), (0, .ref a0), (1, .int a1), (2, .int a2), (3, .int a3)]) rfl (by decide) (by decide +kernel) ?_
  refine q_iconst C (n := 0) (v := 0) (by decide) (by decide +kernel) ?_
  refine q_istore C Rm.1 (i := 5) (lv' := [(5, .int ((0 : Int32))), (4, .int ((0 : Int32))), (0, .ref a0), (1, .int a1), (2, .int a2), (3, .int a3)]) rfl (by decide) (by decide +kernel) ?_
  refine q_iconst C (n := 0) (v := 0) (by decide) (by decide +kernel) ?_
  refine q_istore C Rm.1 (i := 6) (lv' := [(6, .int ((0 : Int32))), (5, .int ((0 : Int32))), (4, .int ((0 : Int32))), (0, .ref a0), (1, .int a1), (2, .int a2), (3, .int a3)]) rfl (by decide) (by decide +kernel) ?_
  refine q_loc [3, 4, 5, 6, 2, 1, 0] rfl ?_
  exact v_X8_bestRow_9 C Rm K _ _ _ _ _ _ _ _ _ hm
def m_X10_changePlaces (h : q_H) (a0 : Nat) (a1 : Int32) (a2 : Int32) : Option q_H :=
  (q_gn h a0 10 3).bind fun v1 =>
  (q_ai h v1 1 a1).bind fun v2 =>
  (q_gn h a0 10 4).bind fun v3 =>
  (q_ai h v3 1 a1).bind fun v4 =>
  (q_gn h a0 10 3).bind fun v5 =>
  (q_gn h a0 10 3).bind fun v6 =>
  (q_ai h v6 1 a2).bind fun v7 =>
  (q_si h v5 1 a1 v7).bind fun h8 =>
  (q_gn h8 a0 10 4).bind fun v9 =>
  (q_gn h8 a0 10 4).bind fun v10 =>
  (q_ai h8 v10 1 a2).bind fun v11 =>
  (q_si h8 v9 1 a1 v11).bind fun h12 =>
  (q_gn h12 a0 10 3).bind fun v13 =>
  (q_si h12 v13 1 a2 v2).bind fun h14 =>
  (q_gn h14 a0 10 4).bind fun v15 =>
  (q_si h14 v15 1 a2 v4).bind fun h16 =>
  some h16
set_option maxRecDepth 20000 in
set_option maxHeartbeats 1000000 in
theorem c_X10_changePlaces (l : Launch) (base : Nat) (D : va_G) (tc : Nat → ClassId) (sz : Nat) (h : q_H) (a0 : Nat) (a1 : Int32) (a2 : Int32) {h' : q_H} (hm : m_X10_changePlaces h a0 a1 a2 = some h') : q_M l yX10_changePlaces cX10_changePlaces 5 none 0 0 0 0 base D tc [.ref a0, .int a1, .int a2] sz h none sz h' := by
  refine q_startv (by decide) (Nat.le_of_ble_eq_true rfl) (fun Γ B K => ?_)
  obtain ⟨C, Rm, -⟩ := B
  have C : q_C Γ cX10_changePlaces RX10 := C
  show q_V Γ sz 0 0 h [(0, .ref a0), (1, .int a1), (2, .int a2)] [] 0
  unfold m_X10_changePlaces at hm
  refine q_aload_n C (k4 := 0) 0 rfl (by decide +kernel) ?_
  refine q_getn C fl_10_9 hm (by decide +kernel) (fun v1 hm => ?_)
  refine q_iload_n C (k4 := 1) 1 rfl (by decide +kernel) ?_
  refine q_ir C hm (by decide +kernel) (fun v2 hm => ?_)
  refine q_istore_n C Rm.1 (k4 := 3) (i := 3) rfl (lv' := [(3, .int v2), (0, .ref a0), (1, .int a1), (2, .int a2)]) rfl (by decide) (by decide +kernel) ?_
  refine q_aload_n C (k4 := 0) 1 rfl (by decide +kernel) ?_
  refine q_getn C fl_10_15 hm (by decide +kernel) (fun v3 hm => ?_)
  refine q_iload_n C (k4 := 1) 2 rfl (by decide +kernel) ?_
  refine q_ir C hm (by decide +kernel) (fun v4 hm => ?_)
  refine q_istore C Rm.1 (i := 4) (lv' := [(4, .int v4), (3, .int v2), (0, .ref a0), (1, .int a1), (2, .int a2)]) rfl (by decide) (by decide +kernel) ?_
  refine q_aload_n C (k4 := 0) 2 rfl (by decide +kernel) ?_
  refine q_getn C fl_10_9 hm (by decide +kernel) (fun v5 hm => ?_)
  refine q_iload_n C (k4 := 1) 3 rfl (by decide +kernel) ?_
  refine q_aload_n C (k4 := 0) 2 rfl (by decide +kernel) ?_
  refine q_getn C fl_10_9 hm (by decide +kernel) (fun v6 hm => ?_)
  refine q_iload_n C (k4 := 2) 4 rfl (by decide +kernel) ?_
  refine q_ir C hm (by decide +kernel) (fun v7 hm => ?_)
  refine q_iw C hm (by decide +kernel) (fun h8 hm => ?_)
  refine q_aload_n C (k4 := 0) 2 rfl (by decide +kernel) ?_
  refine q_getn C fl_10_15 hm (by decide +kernel) (fun v9 hm => ?_)
  refine q_iload_n C (k4 := 1) 3 rfl (by decide +kernel) ?_
  refine q_aload_n C (k4 := 0) 2 rfl (by decide +kernel) ?_
  refine q_getn C fl_10_15 hm (by decide +kernel) (fun v10 hm => ?_)
  refine q_iload_n C (k4 := 2) 4 rfl (by decide +kernel) ?_
  refine q_ir C hm (by decide +kernel) (fun v11 hm => ?_)
  refine q_iw C hm (by decide +kernel) (fun h12 hm => ?_)
  refine q_aload_n C (k4 := 0) 2 rfl (by decide +kernel) ?_
  refine q_getn C fl_10_9 hm (by decide +kernel) (fun v13 hm => ?_)
  refine q_iload_n C (k4 := 2) 4 rfl (by decide +kernel) ?_
  refine q_iload_n C (k4 := 3) 1 rfl (by decide +kernel) ?_
  refine q_iw C hm (by decide +kernel) (fun h14 hm => ?_)
  refine q_aload_n C (k4 := 0) 2 rfl (by decide +kernel) ?_
  refine q_getn C fl_10_15 hm (by decide +kernel) (fun v15 hm => ?_)
  refine q_iload_n C (k4 := 2) 4 rfl (by decide +kernel) ?_
  refine q_iload C (i := 4) 0 rfl (by decide +kernel) ?_
  refine q_iw C hm (by decide +kernel) (fun h16 hm => ?_)
  exact q_rvS hm K (by decide +kernel)
def m_X8_nearByTrade (h : q_H) (a0 : Nat) (a1 : Int32) (a2 : Int32) (a3 : Int32) (a4 : Int32) : Option (Int32 × q_H) :=
  (q_gn h a0 8 0).bind fun v1 =>
  (q_gn h v1 0 1).bind fun v2 =>
  (q_gn h v2 10 3).bind fun v3 =>
  (q_ai h v3 1 a1).bind fun v4 =>
  if v4 = 0 then
    (q_gn h a0 8 0).bind fun v5 =>
    (q_gn h v5 0 1).bind fun v6 =>
    (q_gn h v6 10 3).bind fun v7 =>
    (q_ai h v7 1 a2).bind fun v8 =>
    if v8 = (1 : Int32) then
      (q_ca 8 h a0 (m_X8_startFromNow h a0)).bind fun h10 =>
      (q_gn h10 a0 8 3).bind fun v11 =>
      (q_ca 10 h10 v11 (m_X10_changePlaces h10 v11 a1 a2)).bind fun h13 =>
      (q_gn h13 a0 8 2).bind fun v14 =>
      (q_gn h13 a0 8 3).bind fun v15 =>
      (q_ca 1 h13 v14 (m_X1_heaveOn h13 v14 v15 a3)).bind fun h17 =>
      (q_gn h17 a0 8 3).bind fun v18 =>
      (q_gi h17 v18 10 0).bind fun v19 =>
      some ((if 0 ≤ v19 then v19 else 0 - v19), h17)
    else
      some (a4, h)
  else
    some (a4, h)
set_option maxRecDepth 20000 in
set_option maxHeartbeats 1000000 in
theorem c_X8_nearByTrade (l : Launch) (base : Nat) (D : va_G) (tc : Nat → ClassId) (sz : Nat) (h : q_H) (a0 : Nat) (a1 : Int32) (a2 : Int32) (a3 : Int32) (a4 : Int32) {r : Int32} {h' : q_H} (hm : m_X8_nearByTrade h a0 a1 a2 a3 a4 = some (r, h')) : q_M l yX8_nearByTrade cX8_nearByTrade 5 (some .int) 5 131 0 0 base D tc [.ref a0, .int a1, .int a2, .int a3, .int a4] sz h (some (.int r)) sz h' := by
  refine q_starti (by decide) (Nat.le_of_ble_eq_true rfl) (fun Γ B K => ?_)
  obtain ⟨C, Rm, -⟩ := B
  have C : q_C Γ cX8_nearByTrade RX8 := C
  show q_V Γ sz 0 0 h [(0, .ref a0), (1, .int a1), (2, .int a2), (3, .int a3), (4, .int a4)] [] 0
  unfold m_X8_nearByTrade at hm
  refine q_aload_n C (k4 := 0) 0 rfl (by decide +kernel) ?_
  refine q_getn C fl_8_9 hm (by decide +kernel) (fun v1 hm => ?_)
  refine q_getn C fl_8_76 hm (by decide +kernel) (fun v2 hm => ?_)
  refine q_getn C fl_8_120 hm (by decide +kernel) (fun v3 hm => ?_)
  refine q_iload_n C (k4 := 1) 1 rfl (by decide +kernel) ?_
  refine q_ir C hm (by decide +kernel) (fun v4 hm => ?_)
  refine q_if_ne C (off := 19) 31 hm (by decide +kernel) (by decide) (fun _ hm => ?_) (fun _ hm => ?_)
  · refine q_iload C (i := 4) 4 rfl (by decide +kernel) ?_
    exact q_riS hm K rfl (by decide +kernel)
  · refine q_aload_n C (k4 := 0) 0 rfl (by decide +kernel) ?_
    refine q_getn C fl_8_9 hm (by decide +kernel) (fun v5 hm => ?_)
    refine q_getn C fl_8_76 hm (by decide +kernel) (fun v6 hm => ?_)
    refine q_getn C fl_8_120 hm (by decide +kernel) (fun v7 hm => ?_)
    refine q_iload_n C (k4 := 2) 2 rfl (by decide +kernel) ?_
    refine q_ir C hm (by decide +kernel) (fun v8 hm => ?_)
    refine q_iconst C (n := 1) (v := 1) (by decide) (by decide +kernel) ?_
    refine q_icmp_eq C (off := 6) 34 hm (by decide +kernel) (by decide) (fun _ hm => ?_) (fun _ hm => ?_)
    · refine q_aload_n C (k4 := 0) 0 rfl (by decide +kernel) ?_
      refine q_vvS C Rm (As := []) (rest := []) Y_X8_startFromNow Yv_X8_startFromNow ml_X8_83 (by decide) (by decide) hm (fun h10 e9 => c_X8_startFromNow _ _ _ _ _ _ _ e9) rfl rfl (Nat.le_of_ble_eq_true rfl) (by decide +kernel) (fun h10 hm => ?_)
      refine q_aload_n C (k4 := 0) 0 rfl (by decide +kernel) ?_
      refine q_getn C fl_8_26 hm (by decide +kernel) (fun v11 hm => ?_)
      refine q_iload_n C (k4 := 1) 1 rfl (by decide +kernel) ?_
      refine q_iload_n C (k4 := 2) 2 rfl (by decide +kernel) ?_
      refine q_vvS C Rm (As := [.int a1, .int a2]) (rest := []) Y_X10_changePlaces Yv_X10_changePlaces ml_X8_139 (by decide) (by decide) hm (fun h13 e9 => c_X10_changePlaces _ _ _ _ _ _ _ _ _ e9) rfl rfl (Nat.le_of_ble_eq_true rfl) (by decide +kernel) (fun h13 hm => ?_)
      refine q_aload_n C (k4 := 0) 0 rfl (by decide +kernel) ?_
      refine q_getn C fl_8_19 hm (by decide +kernel) (fun v14 hm => ?_)
      refine q_aload_n C (k4 := 0) 0 rfl (by decide +kernel) ?_
      refine q_getn C fl_8_26 hm (by decide +kernel) (fun v15 hm => ?_)
      refine q_iload_n C (k4 := 3) 3 rfl (by decide +kernel) ?_
      refine q_vvS C Rm (As := [.ref v15, .int a3]) (rest := []) Y_X1_heaveOn Yv_X1_heaveOn ml_X8_86 (by decide) (by decide) hm (fun h17 e9 => c_X1_heaveOn _ _ _ _ _ _ _ _ _ e9) rfl rfl (Nat.le_of_ble_eq_true rfl) (by decide +kernel) (fun h17 hm => ?_)
      refine q_aload_n C (k4 := 0) 0 rfl (by decide +kernel) ?_
      refine q_getn C fl_8_26 hm (by decide +kernel) (fun v18 hm => ?_)
      refine q_geti C fl_8_90 hm (by decide +kernel) (fun v19 hm => ?_)
      refine q_mabs C Rm ml_X8_127 (by decide) (Nat.le_of_ble_eq_true rfl) ⟨Nat.le_refl _, Nat.le_refl _⟩ (by decide +kernel) ?_
      exact q_riS hm K rfl (by decide +kernel)
    · refine q_iload C (i := 4) 4 rfl (by decide +kernel) ?_
      exact q_riS hm K rfl (by decide +kernel)
def m_X8_bestTrade_98 (k36 : q_H → Nat → Int32 → Int32 → Int32 → Int32 → Int32 → Int32 → Option (Int32 × q_H)) (k54 : q_H → Nat → Int32 → Int32 → Int32 → Int32 → Int32 → Int32 → Int32 → Option (Int32 × q_H)) (h : q_H) (x0 : Nat) (x1 : Int32) (x2 : Int32) (x3 : Int32) (x4 : Int32) (x5 : Int32) (x6 : Int32) (x7 : Int32) : Option (Int32 × q_H) :=
  k54 h x0 x1 x2 x3 x4 x5 x6 ((x7 + (1 : Int32)))
set_option maxRecDepth 20000 in
set_option maxHeartbeats 1000000 in
theorem v_X8_bestTrade_98 {Γ : q_G} {sz : Nat} {r : Int32} {h' : q_H} (C : q_C Γ cX8_bestTrade RX8) (Rm : q_Rm Γ 9 6 155 0 0) {k36 : q_H → Nat → Int32 → Int32 → Int32 → Int32 → Int32 → Int32 → Option (Int32 × q_H)} {k54 : q_H → Nat → Int32 → Int32 → Int32 → Int32 → Int32 → Int32 → Int32 → Option (Int32 × q_H)} (K : narrow .int (.int r) = .int r → q_K Γ cX8_bestTrade .ireturn sz h' 0 0 [.int r]) (hk36 : ∀ (h : q_H) (x0 : Nat) (x1 : Int32) (x2 : Int32) (x3 : Int32) (x4 : Int32) (x5 : Int32) (x6 : Int32), k36 h x0 x1 x2 x3 x4 x5 x6 = some (r, h') → q_V Γ sz 0 0 h [(0, .ref x0), (1, .int x1), (2, .int x2), (3, .int x3), (4, .int x4), (5, .int x5), (6, .int x6)] [] 36) (hk54 : ∀ (h : q_H) (x0 : Nat) (x1 : Int32) (x2 : Int32) (x3 : Int32) (x4 : Int32) (x5 : Int32) (x6 : Int32) (x7 : Int32), k54 h x0 x1 x2 x3 x4 x5 x6 x7 = some (r, h') → q_V Γ sz 0 0 h [(0, .ref x0), (1, .int x1), (2, .int x2), (3, .int x3), (4, .int x4), (5, .int x5), (6, .int x6), (7, .int x7)] [] 54) : ∀ (h : q_H) (x0 : Nat) (x1 : Int32) (x2 : Int32) (x3 : Int32) (x4 : Int32) (x5 : Int32) (x6 : Int32) (x7 : Int32), m_X8_bestTrade_98 k36 k54 h x0 x1 x2 x3 x4 x5 x6 x7 = some (r, h') → q_V Γ sz 0 0 h [(0, .ref x0), (1, .int x1), (2, .int x2), (3, .int x3), (4, .int x4), (5, .int x5), (6, .int x6), (7, .int x7)] [] 98 := by
  intro h x0 x1 x2 x3 x4 x5 x6 x7 hm
  unfold m_X8_bestTrade_98 at hm
  refine q_iinc C Rm.1 (i := 7) (n := 1) (v := (x7 + (1 : Int32))) 7 rfl (q_inc _ (by decide)) (lv' := [(7, .int ((x7 + (1 : Int32)))), (0, .ref x0), (1, .int x1), (2, .int x2), (3, .int x3), (4, .int x4), (5, .int x5), (6, .int x6)]) rfl (by decide) (by decide +kernel) ?_
  refine q_goto C (off := -47) 54 (by decide +kernel) (by decide) ?_
  refine q_loc [1, 2, 3, 4, 5, 6, 7, 0] rfl ?_
  exact hk54 _ _ _ _ _ _ _ _ _ hm
def m_X8_bestTrade_54 (k36 : q_H → Nat → Int32 → Int32 → Int32 → Int32 → Int32 → Int32 → Option (Int32 × q_H)) : Nat → q_H → Nat → Int32 → Int32 → Int32 → Int32 → Int32 → Int32 → Int32 → Option (Int32 × q_H)
  | 0, _, _, _, _, _, _, _, _, _ => none
  | n + 1, h, x0, x1, x2, x3, x4, x5, x6, x7 =>
    (q_gn h x0 8 0).bind fun v12 =>
    (q_gn h v12 0 0).bind fun v13 =>
    (q_gi h v13 4 3).bind fun v14 =>
    if v14 ≤ x7 then
      k36 h x0 x1 x2 x3 x4 x5 ((x6 + (1 : Int32)))
    else
      (q_ca 8 h x0 (m_X8_nearByTrade h x0 x6 x7 x1 x3)).bind fun (r15, h16) =>
      if x3 ≤ r15 then
        m_X8_bestTrade_98 k36 (m_X8_bestTrade_54 k36 n) h16 x0 x1 x2 x3 x4 x5 x6 x7
      else
        m_X8_bestTrade_98 k36 (m_X8_bestTrade_54 k36 n) h16 x0 x1 x2 r15 x6 x7 x6 x7
set_option maxRecDepth 20000 in
set_option maxHeartbeats 1000000 in
theorem v_X8_bestTrade_54 {Γ : q_G} {sz : Nat} {r : Int32} {h' : q_H} (C : q_C Γ cX8_bestTrade RX8) (Rm : q_Rm Γ 9 6 155 0 0) {k36 : q_H → Nat → Int32 → Int32 → Int32 → Int32 → Int32 → Int32 → Option (Int32 × q_H)} (K : narrow .int (.int r) = .int r → q_K Γ cX8_bestTrade .ireturn sz h' 0 0 [.int r]) (hk36 : ∀ (h : q_H) (x0 : Nat) (x1 : Int32) (x2 : Int32) (x3 : Int32) (x4 : Int32) (x5 : Int32) (x6 : Int32), k36 h x0 x1 x2 x3 x4 x5 x6 = some (r, h') → q_V Γ sz 0 0 h [(0, .ref x0), (1, .int x1), (2, .int x2), (3, .int x3), (4, .int x4), (5, .int x5), (6, .int x6)] [] 36) : ∀ (n : Nat) (h : q_H) (x0 : Nat) (x1 : Int32) (x2 : Int32) (x3 : Int32) (x4 : Int32) (x5 : Int32) (x6 : Int32) (x7 : Int32), m_X8_bestTrade_54 k36 n h x0 x1 x2 x3 x4 x5 x6 x7 = some (r, h') → q_V Γ sz 0 0 h [(0, .ref x0), (1, .int x1), (2, .int x2), (3, .int x3), (4, .int x4), (5, .int x5), (6, .int x6), (7, .int x7)] [] 54 := by
  intro n
  induction n with
  | zero => intro h x0 x1 x2 x3 x4 x5 x6 x7 hm; cases hm
  | succ n ih =>
    intro h x0 x1 x2 x3 x4 x5 x6 x7 hm
    unfold m_X8_bestTrade_54 at hm
    refine q_iload C (i := 7) 7 rfl (by decide +kernel) ?_
    refine q_aload_n C (k4 := 0) 0 rfl (by decide +kernel) ?_
    refine q_getn C fl_8_9 hm (by decide +kernel) (fun v12 hm => ?_)
    refine q_getn C fl_8_63 hm (by decide +kernel) (fun v13 hm => ?_)
    refine q_geti C fl_8_132 hm (by decide +kernel) (fun v14 hm => ?_)
    refine q_icmp_ge C (off := 38) 104 hm (by decide +kernel) (by decide) (fun _ hm => ?_) (fun _ hm => ?_)
    · refine q_iinc C Rm.1 (i := 6) (n := 1) (v := (x6 + (1 : Int32))) 6 rfl (q_inc _ (by decide)) (lv' := [(6, .int ((x6 + (1 : Int32)))), (0, .ref x0), (1, .int x1), (2, .int x2), (3, .int x3), (4, .int x4), (5, .int x5), (7, .int x7)]) rfl (by decide) (by decide +kernel) ?_
      refine q_goto C (off := -71) 36 (by decide +kernel) (by decide) ?_
      refine q_loc [1, 2, 3, 4, 5, 6, 0] rfl ?_
      exact hk36 _ _ _ _ _ _ _ _ hm
    · refine q_aload_n C (k4 := 0) 0 rfl (by decide +kernel) ?_
      refine q_iload C (i := 6) 6 rfl (by decide +kernel) ?_
      refine q_iload C (i := 7) 7 rfl (by decide +kernel) ?_
      refine q_iload_n C (k4 := 1) 1 rfl (by decide +kernel) ?_
      refine q_iload_n C (k4 := 3) 3 rfl (by decide +kernel) ?_
      refine q_viS C Rm (As := [.int x6, .int x7, .int x1, .int x3]) (rest := []) Y_X8_nearByTrade Yv_X8_nearByTrade ml_X8_135 (by decide) (by decide) hm (fun r15 h16 e9 => c_X8_nearByTrade _ _ _ _ _ _ _ _ _ _ _ e9) rfl rfl (Nat.le_of_ble_eq_true rfl) (by decide +kernel) (fun r15 h16 hm z17 => ?_)
      refine q_istore C Rm.1 (i := 8) (lv' := [(8, .int r15), (0, .ref x0), (1, .int x1), (2, .int x2), (3, .int x3), (4, .int x4), (5, .int x5), (6, .int x6), (7, .int x7)]) rfl (by decide) (by decide +kernel) ?_
      refine q_iload C (i := 8) 0 rfl (by decide +kernel) ?_
      refine q_iload_n C (k4 := 3) 4 rfl (by decide +kernel) ?_
      refine q_icmp_ge C (off := 14) 98 hm (by decide +kernel) (by decide) (fun _ hm => ?_) (fun _ hm => ?_)
      · refine q_loc [1, 2, 3, 4, 5, 6, 7, 8] rfl ?_
        exact v_X8_bestTrade_98 C Rm K hk36 ih _ _ _ _ _ _ _ _ _ hm
      · refine q_iload C (i := 8) 0 rfl (by decide +kernel) ?_
        refine q_istore_n C Rm.1 (k4 := 3) (i := 3) rfl (lv' := [(3, .int r15), (8, .int r15), (0, .ref x0), (1, .int x1), (2, .int x2), (4, .int x4), (5, .int x5), (6, .int x6), (7, .int x7)]) rfl (by decide) (by decide +kernel) ?_
        refine q_iload C (i := 6) 7 rfl (by decide +kernel) ?_
        refine q_istore C Rm.1 (i := 4) (lv' := [(4, .int x6), (3, .int r15), (8, .int r15), (0, .ref x0), (1, .int x1), (2, .int x2), (5, .int x5), (6, .int x6), (7, .int x7)]) rfl (by decide) (by decide +kernel) ?_
        refine q_iload C (i := 7) 8 rfl (by decide +kernel) ?_
        refine q_istore C Rm.1 (i := 5) (lv' := [(5, .int x7), (4, .int x6), (3, .int r15), (8, .int r15), (0, .ref x0), (1, .int x1), (2, .int x2), (6, .int x6), (7, .int x7)]) rfl (by decide) (by decide +kernel) ?_
        refine q_loc [4, 5, 6, 2, 1, 0, 7, 8] rfl ?_
        exact v_X8_bestTrade_98 C Rm K hk36 ih _ _ _ _ _ _ _ _ _ hm
def m_X8_bestTrade_36  : Nat → q_H → Nat → Int32 → Int32 → Int32 → Int32 → Int32 → Int32 → Option (Int32 × q_H)
  | 0, _, _, _, _, _, _, _, _ => none
  | n + 1, h, x0, x1, x2, x3, x4, x5, x6 =>
    (q_gn h x0 8 0).bind fun v9 =>
    (q_gn h v9 0 0).bind fun v10 =>
    (q_gi h v10 4 3).bind fun v11 =>
    if v11 ≤ x6 then
      if x2 = 0 then
        some (x3, h)
      else
        if x2 = (1 : Int32) then
          some (x4, h)
        else
          some (x5, h)
    else
      m_X8_bestTrade_54 (m_X8_bestTrade_36 n) q_fu h x0 x1 x2 x3 x4 x5 x6 ((0 : Int32))
set_option maxRecDepth 20000 in
set_option maxHeartbeats 1000000 in
theorem v_X8_bestTrade_36 {Γ : q_G} {sz : Nat} {r : Int32} {h' : q_H} (C : q_C Γ cX8_bestTrade RX8) (Rm : q_Rm Γ 9 6 155 0 0)  (K : narrow .int (.int r) = .int r → q_K Γ cX8_bestTrade .ireturn sz h' 0 0 [.int r])  : ∀ (n : Nat) (h : q_H) (x0 : Nat) (x1 : Int32) (x2 : Int32) (x3 : Int32) (x4 : Int32) (x5 : Int32) (x6 : Int32), m_X8_bestTrade_36 n h x0 x1 x2 x3 x4 x5 x6 = some (r, h') → q_V Γ sz 0 0 h [(0, .ref x0), (1, .int x1), (2, .int x2), (3, .int x3), (4, .int x4), (5, .int x5), (6, .int x6)] [] 36 := by
  intro n
  induction n with
  | zero => intro h x0 x1 x2 x3 x4 x5 x6 hm; cases hm
  | succ n ih =>
    intro h x0 x1 x2 x3 x4 x5 x6 hm
    unfold m_X8_bestTrade_36 at hm
    refine q_iload C (i := 6) 6 rfl (by decide +kernel) ?_
    refine q_aload_n C (k4 := 0) 0 rfl (by decide +kernel) ?_
    refine q_getn C fl_8_9 hm (by decide +kernel) (fun v9 hm => ?_)
    refine q_getn C fl_8_63 hm (by decide +kernel) (fun v10 hm => ?_)
    refine q_geti C fl_8_132 hm (by decide +kernel) (fun v11 hm => ?_)
    refine q_icmp_ge C (off := 62) 110 hm (by decide +kernel) (by decide) (fun _ hm => ?_) (fun _ hm => ?_)
    · refine q_iload_n C (k4 := 2) 2 rfl (by decide +kernel) ?_
      refine q_if_ne C (off := 7) 118 hm (by decide +kernel) (by decide) (fun _ hm => ?_) (fun _ hm => ?_)
      · refine q_iload_n C (k4 := 2) 2 rfl (by decide +kernel) ?_
        refine q_iconst C (n := 1) (v := 1) (by decide) (by decide +kernel) ?_
        refine q_icmp_ne C (off := 8) 128 hm (by decide +kernel) (by decide) (fun _ hm => ?_) (fun _ hm => ?_)
        · refine q_iload C (i := 5) 5 rfl (by decide +kernel) ?_
          exact q_riS hm K rfl (by decide +kernel)
        · refine q_iload C (i := 4) 4 rfl (by decide +kernel) ?_
          refine q_goto C (off := 5) 130 (by decide +kernel) (by decide) ?_
          exact q_riS hm K rfl (by decide +kernel)
      · refine q_iload_n C (k4 := 3) 3 rfl (by decide +kernel) ?_
        refine q_goto C (off := 15) 130 (by decide +kernel) (by decide) ?_
        exact q_riS hm K rfl (by decide +kernel)
    · refine q_iconst C (n := 0) (v := 0) (by decide) (by decide +kernel) ?_
      refine q_istore C Rm.1 (i := 7) (lv' := [(7, .int ((0 : Int32))), (0, .ref x0), (1, .int x1), (2, .int x2), (3, .int x3), (4, .int x4), (5, .int x5), (6, .int x6)]) rfl (by decide) (by decide +kernel) ?_
      refine q_loc [1, 2, 3, 4, 5, 6, 7, 0] rfl ?_
      exact v_X8_bestTrade_54 C Rm K ih _ _ _ _ _ _ _ _ _ _ hm
def m_X8_bestTrade (h : q_H) (a0 : Nat) (a1 : Int32) (a2 : Int32) : Option (Int32 × q_H) :=
  (q_ca 8 h a0 (m_X8_startFromNow h a0)).bind fun h2 =>
  (q_gn h2 a0 8 2).bind fun v3 =>
  (q_gn h2 a0 8 3).bind fun v4 =>
  (q_ca 1 h2 v3 (m_X1_heaveOn h2 v3 v4 a1)).bind fun h6 =>
  (q_gn h6 a0 8 3).bind fun v7 =>
  (q_gi h6 v7 10 0).bind fun v8 =>
  m_X8_bestTrade_36 q_fu h6 a0 a1 a2 ((if 0 ≤ v8 then v8 else 0 - v8)) ((-1 : Int32)) ((-1 : Int32)) ((0 : Int32))
set_option maxRecDepth 20000 in
set_option maxHeartbeats 1000000 in
theorem c_X8_bestTrade (l : Launch) (base : Nat) (D : va_G) (tc : Nat → ClassId) (sz : Nat) (h : q_H) (a0 : Nat) (a1 : Int32) (a2 : Int32) {r : Int32} {h' : q_H} (hm : m_X8_bestTrade h a0 a1 a2 = some (r, h')) : q_M l yX8_bestTrade cX8_bestTrade 9 (some .int) 6 155 0 0 base D tc [.ref a0, .int a1, .int a2] sz h (some (.int r)) sz h' := by
  refine q_starti (by decide) (Nat.le_of_ble_eq_true rfl) (fun Γ B K => ?_)
  obtain ⟨C, Rm, -⟩ := B
  have C : q_C Γ cX8_bestTrade RX8 := C
  show q_V Γ sz 0 0 h [(0, .ref a0), (1, .int a1), (2, .int a2)] [] 0
  unfold m_X8_bestTrade at hm
  refine q_aload_n C (k4 := 0) 0 rfl (by decide +kernel) ?_
  refine q_vvS C Rm (As := []) (rest := []) Y_X8_startFromNow Yv_X8_startFromNow ml_X8_83 (by decide) (by decide) hm (fun h2 e9 => c_X8_startFromNow _ _ _ _ _ _ _ e9) rfl rfl (Nat.le_of_ble_eq_true rfl) (by decide +kernel) (fun h2 hm => ?_)
  refine q_aload_n C (k4 := 0) 0 rfl (by decide +kernel) ?_
  refine q_getn C fl_8_19 hm (by decide +kernel) (fun v3 hm => ?_)
  refine q_aload_n C (k4 := 0) 0 rfl (by decide +kernel) ?_
  refine q_getn C fl_8_26 hm (by decide +kernel) (fun v4 hm => ?_)
  refine q_iload_n C (k4 := 1) 1 rfl (by decide +kernel) ?_
  refine q_vvS C Rm (As := [.ref v4, .int a1]) (rest := []) Y_X1_heaveOn Yv_X1_heaveOn ml_X8_86 (by decide) (by decide) hm (fun h6 e9 => c_X1_heaveOn _ _ _ _ _ _ _ _ _ e9) rfl rfl (Nat.le_of_ble_eq_true rfl) (by decide +kernel) (fun h6 hm => ?_)
  refine q_aload_n C (k4 := 0) 0 rfl (by decide +kernel) ?_
  refine q_getn C fl_8_26 hm (by decide +kernel) (fun v7 hm => ?_)
  refine q_geti C fl_8_90 hm (by decide +kernel) (fun v8 hm => ?_)
  refine q_mabs C Rm ml_X8_127 (by decide) (Nat.le_of_ble_eq_true rfl) ⟨Nat.le_refl _, Nat.le_refl _⟩ (by decide +kernel) ?_
  refine q_istore_n C Rm.1 (k4 := 3) (i := 3) rfl (lv' := [(3, .int ((if 0 ≤ v8 then v8 else 0 - v8))), (0, .ref a0), (1, .int a1), (2, .int a2)]) rfl (by decide) (by decide +kernel) ?_
  refine q_iconst C (n := (-1)) (v := (-1)) (by decide) (by decide +kernel) ?_
  refine q_istore C Rm.1 (i := 4) (lv' := [(4, .int ((-1 : Int32))), (3, .int ((if 0 ≤ v8 then v8 else 0 - v8))), (0, .ref a0), (1, .int a1), (2, .int a2)]) rfl (by decide) (by decide +kernel) ?_
  refine q_iconst C (n := (-1)) (v := (-1)) (by decide) (by decide +kernel) ?_
  refine q_istore C Rm.1 (i := 5) (lv' := [(5, .int ((-1 : Int32))), (4, .int ((-1 : Int32))), (3, .int ((if 0 ≤ v8 then v8 else 0 - v8))), (0, .ref a0), (1, .int a1), (2, .int a2)]) rfl (by decide) (by decide +kernel) ?_
  refine q_iconst C (n := 0) (v := 0) (by decide) (by decide +kernel) ?_
  refine q_istore C Rm.1 (i := 6) (lv' := [(6, .int ((0 : Int32))), (5, .int ((-1 : Int32))), (4, .int ((-1 : Int32))), (3, .int ((if 0 ≤ v8 then v8 else 0 - v8))), (0, .ref a0), (1, .int a1), (2, .int a2)]) rfl (by decide) (by decide +kernel) ?_
  refine q_loc [4, 5, 6, 3, 2, 1, 0] rfl ?_
  exact v_X8_bestTrade_36 C Rm K _ _ _ _ _ _ _ _ _ hm
def m_X8_bestIdler_86 (k8 : q_H → Nat → Int32 → Int32 → Int32 → Int32 → Int32 → Option (Int32 × q_H)) (h : q_H) (x0 : Nat) (x1 : Int32) (x2 : Int32) (x3 : Int32) (x4 : Int32) (x5 : Int32) : Option (Int32 × q_H) :=
  k8 h x0 x1 x2 x3 x4 ((x5 + (1 : Int32)))
set_option maxRecDepth 20000 in
set_option maxHeartbeats 1000000 in
theorem v_X8_bestIdler_86 {Γ : q_G} {sz : Nat} {r : Int32} {h' : q_H} (C : q_C Γ cX8_bestIdler RX8) (Rm : q_Rm Γ 7 5 131 0 0) {k8 : q_H → Nat → Int32 → Int32 → Int32 → Int32 → Int32 → Option (Int32 × q_H)} (K : narrow .int (.int r) = .int r → q_K Γ cX8_bestIdler .ireturn sz h' 0 0 [.int r]) (hk8 : ∀ (h : q_H) (x0 : Nat) (x1 : Int32) (x2 : Int32) (x3 : Int32) (x4 : Int32) (x5 : Int32), k8 h x0 x1 x2 x3 x4 x5 = some (r, h') → q_V Γ sz 0 0 h [(0, .ref x0), (1, .int x1), (2, .int x2), (3, .int x3), (4, .int x4), (5, .int x5)] [] 8) : ∀ (h : q_H) (x0 : Nat) (x1 : Int32) (x2 : Int32) (x3 : Int32) (x4 : Int32) (x5 : Int32), m_X8_bestIdler_86 k8 h x0 x1 x2 x3 x4 x5 = some (r, h') → q_V Γ sz 0 0 h [(0, .ref x0), (1, .int x1), (2, .int x2), (3, .int x3), (4, .int x4), (5, .int x5)] [] 86 := by
  intro h x0 x1 x2 x3 x4 x5 hm
  unfold m_X8_bestIdler_86 at hm
  refine q_iinc C Rm.1 (i := 5) (n := 1) (v := (x5 + (1 : Int32))) 5 rfl (q_inc _ (by decide)) (lv' := [(5, .int ((x5 + (1 : Int32)))), (0, .ref x0), (1, .int x1), (2, .int x2), (3, .int x3), (4, .int x4)]) rfl (by decide) (by decide +kernel) ?_
  refine q_goto C (off := -81) 8 (by decide +kernel) (by decide) ?_
  refine q_loc [1, 2, 3, 4, 5, 0] rfl ?_
  exact hk8 _ _ _ _ _ _ _ hm
def m_X8_bestIdler_79 (k8 : q_H → Nat → Int32 → Int32 → Int32 → Int32 → Int32 → Option (Int32 × q_H)) (h : q_H) (x0 : Nat) (x1 : Int32) (x2 : Int32) (x5 : Int32) (x6 : Int32) : Option (Int32 × q_H) :=
  m_X8_bestIdler_86 k8 h x0 x1 x2 x6 x5 x5
set_option maxRecDepth 20000 in
set_option maxHeartbeats 1000000 in
theorem v_X8_bestIdler_79 {Γ : q_G} {sz : Nat} {r : Int32} {h' : q_H} (C : q_C Γ cX8_bestIdler RX8) (Rm : q_Rm Γ 7 5 131 0 0) {k8 : q_H → Nat → Int32 → Int32 → Int32 → Int32 → Int32 → Option (Int32 × q_H)} (K : narrow .int (.int r) = .int r → q_K Γ cX8_bestIdler .ireturn sz h' 0 0 [.int r]) (hk8 : ∀ (h : q_H) (x0 : Nat) (x1 : Int32) (x2 : Int32) (x3 : Int32) (x4 : Int32) (x5 : Int32), k8 h x0 x1 x2 x3 x4 x5 = some (r, h') → q_V Γ sz 0 0 h [(0, .ref x0), (1, .int x1), (2, .int x2), (3, .int x3), (4, .int x4), (5, .int x5)] [] 8) : ∀ (h : q_H) (x0 : Nat) (x1 : Int32) (x2 : Int32) (x5 : Int32) (x6 : Int32), m_X8_bestIdler_79 k8 h x0 x1 x2 x5 x6 = some (r, h') → q_V Γ sz 0 0 h [(0, .ref x0), (1, .int x1), (2, .int x2), (5, .int x5), (6, .int x6)] [] 79 := by
  intro h x0 x1 x2 x5 x6 hm
  unfold m_X8_bestIdler_79 at hm
  refine q_iload C (i := 6) 4 rfl (by decide +kernel) ?_
  refine q_istore_n C Rm.1 (k4 := 3) (i := 3) rfl (lv' := [(3, .int x6), (0, .ref x0), (1, .int x1), (2, .int x2), (5, .int x5), (6, .int x6)]) rfl (by decide) (by decide +kernel) ?_
  refine q_iload C (i := 5) 4 rfl (by decide +kernel) ?_
  refine q_istore C Rm.1 (i := 4) (lv' := [(4, .int x5), (3, .int x6), (0, .ref x0), (1, .int x1), (2, .int x2), (5, .int x5), (6, .int x6)]) rfl (by decide) (by decide +kernel) ?_
  refine q_loc [2, 3, 4, 1, 0, 5] rfl ?_
  exact v_X8_bestIdler_86 C Rm K hk8 _ _ _ _ _ _ _ hm
def m_X8_bestIdler_43 (k8 : q_H → Nat → Int32 → Int32 → Int32 → Int32 → Int32 → Option (Int32 × q_H)) (h : q_H) (x0 : Nat) (x1 : Int32) (x2 : Int32) (x3 : Int32) (x4 : Int32) (x5 : Int32) : Option (Int32 × q_H) :=
  (q_gn h x0 8 2).bind fun v9 =>
  (q_gn h x0 8 3).bind fun v10 =>
  (q_ca 1 h v9 (m_X1_heaveOn h v9 v10 x1)).bind fun h12 =>
  (q_gn h12 x0 8 3).bind fun v13 =>
  (q_gi h12 v13 10 0).bind fun v14 =>
  if x5 = (-1 : Int32) then
    m_X8_bestIdler_79 k8 h12 x0 x1 x2 x5 ((if 0 ≤ v14 then v14 else 0 - v14))
  else
    if x3 ≤ (if 0 ≤ v14 then v14 else 0 - v14) then
      m_X8_bestIdler_86 k8 h12 x0 x1 x2 x3 x4 x5
    else
      m_X8_bestIdler_79 k8 h12 x0 x1 x2 x5 ((if 0 ≤ v14 then v14 else 0 - v14))
set_option maxRecDepth 20000 in
set_option maxHeartbeats 1000000 in
theorem v_X8_bestIdler_43 {Γ : q_G} {sz : Nat} {r : Int32} {h' : q_H} (C : q_C Γ cX8_bestIdler RX8) (Rm : q_Rm Γ 7 5 131 0 0) {k8 : q_H → Nat → Int32 → Int32 → Int32 → Int32 → Int32 → Option (Int32 × q_H)} (K : narrow .int (.int r) = .int r → q_K Γ cX8_bestIdler .ireturn sz h' 0 0 [.int r]) (hk8 : ∀ (h : q_H) (x0 : Nat) (x1 : Int32) (x2 : Int32) (x3 : Int32) (x4 : Int32) (x5 : Int32), k8 h x0 x1 x2 x3 x4 x5 = some (r, h') → q_V Γ sz 0 0 h [(0, .ref x0), (1, .int x1), (2, .int x2), (3, .int x3), (4, .int x4), (5, .int x5)] [] 8) : ∀ (h : q_H) (x0 : Nat) (x1 : Int32) (x2 : Int32) (x3 : Int32) (x4 : Int32) (x5 : Int32), m_X8_bestIdler_43 k8 h x0 x1 x2 x3 x4 x5 = some (r, h') → q_V Γ sz 0 0 h [(0, .ref x0), (1, .int x1), (2, .int x2), (3, .int x3), (4, .int x4), (5, .int x5)] [] 43 := by
  intro h x0 x1 x2 x3 x4 x5 hm
  unfold m_X8_bestIdler_43 at hm
  refine q_aload_n C (k4 := 0) 0 rfl (by decide +kernel) ?_
  refine q_getn C fl_8_19 hm (by decide +kernel) (fun v9 hm => ?_)
  refine q_aload_n C (k4 := 0) 0 rfl (by decide +kernel) ?_
  refine q_getn C fl_8_26 hm (by decide +kernel) (fun v10 hm => ?_)
  refine q_iload_n C (k4 := 1) 1 rfl (by decide +kernel) ?_
  refine q_vvS C Rm (As := [.ref v10, .int x1]) (rest := []) Y_X1_heaveOn Yv_X1_heaveOn ml_X8_86 (by decide) (by decide) hm (fun h12 e9 => c_X1_heaveOn _ _ _ _ _ _ _ _ _ e9) rfl rfl (Nat.le_of_ble_eq_true rfl) (by decide +kernel) (fun h12 hm => ?_)
  refine q_aload_n C (k4 := 0) 0 rfl (by decide +kernel) ?_
  refine q_getn C fl_8_26 hm (by decide +kernel) (fun v13 hm => ?_)
  refine q_geti C fl_8_90 hm (by decide +kernel) (fun v14 hm => ?_)
  refine q_mabs C Rm ml_X8_127 (by decide) (Nat.le_of_ble_eq_true rfl) ⟨Nat.le_refl _, Nat.le_refl _⟩ (by decide +kernel) ?_
  refine q_istore C Rm.1 (i := 6) (lv' := [(6, .int ((if 0 ≤ v14 then v14 else 0 - v14))), (0, .ref x0), (1, .int x1), (2, .int x2), (3, .int x3), (4, .int x4), (5, .int x5)]) rfl (by decide) (by decide +kernel) ?_
  refine q_iload C (i := 5) 6 rfl (by decide +kernel) ?_
  refine q_iconst C (n := (-1)) (v := (-1)) (by decide) (by decide +kernel) ?_
  refine q_icmp_eq C (off := 9) 79 hm (by decide +kernel) (by decide) (fun _ hm => ?_) (fun _ hm => ?_)
  · refine q_loc [1, 2, 3, 6, 0] rfl ?_
    exact v_X8_bestIdler_79 C Rm K hk8 _ _ _ _ _ _ hm
  · refine q_iload C (i := 6) 0 rfl (by decide +kernel) ?_
    refine q_iload_n C (k4 := 3) 4 rfl (by decide +kernel) ?_
    refine q_icmp_ge C (off := 10) 86 hm (by decide +kernel) (by decide) (fun _ hm => ?_) (fun _ hm => ?_)
    · refine q_loc [1, 2, 3, 4, 5, 6] rfl ?_
      exact v_X8_bestIdler_86 C Rm K hk8 _ _ _ _ _ _ _ hm
    · refine q_loc [1, 2, 3, 6, 0] rfl ?_
      exact v_X8_bestIdler_79 C Rm K hk8 _ _ _ _ _ _ hm
def m_X8_bestIdler_8  : Nat → q_H → Nat → Int32 → Int32 → Int32 → Int32 → Int32 → Option (Int32 × q_H)
  | 0, _, _, _, _, _, _, _ => none
  | n + 1, h, x0, x1, x2, x3, x4, x5 =>
    (q_gn h x0 8 0).bind fun v1 =>
    (q_gn h v1 0 0).bind fun v2 =>
    (q_gi h v2 4 3).bind fun v3 =>
    if v3 ≤ x5 then
      if x2 = 0 then
        some (x4, h)
      else
        some (x3, h)
    else
      (q_ca 8 h x0 (m_X8_startFromNow h x0)).bind fun h5 =>
      if x5 = (-1 : Int32) then
        m_X8_bestIdler_43 (m_X8_bestIdler_8 n) h5 x0 x1 x2 x3 x4 x5
      else
        (q_gn h5 x0 8 2).bind fun v6 =>
        (q_ca 1 h5 v6 (m_X1_fix h5 v6 x5 ((0 : Int32)))).bind fun h8 =>
        m_X8_bestIdler_43 (m_X8_bestIdler_8 n) h8 x0 x1 x2 x3 x4 x5
set_option maxRecDepth 20000 in
set_option maxHeartbeats 1000000 in
theorem v_X8_bestIdler_8 {Γ : q_G} {sz : Nat} {r : Int32} {h' : q_H} (C : q_C Γ cX8_bestIdler RX8) (Rm : q_Rm Γ 7 5 131 0 0)  (K : narrow .int (.int r) = .int r → q_K Γ cX8_bestIdler .ireturn sz h' 0 0 [.int r])  : ∀ (n : Nat) (h : q_H) (x0 : Nat) (x1 : Int32) (x2 : Int32) (x3 : Int32) (x4 : Int32) (x5 : Int32), m_X8_bestIdler_8 n h x0 x1 x2 x3 x4 x5 = some (r, h') → q_V Γ sz 0 0 h [(0, .ref x0), (1, .int x1), (2, .int x2), (3, .int x3), (4, .int x4), (5, .int x5)] [] 8 := by
  intro n
  induction n with
  | zero => intro h x0 x1 x2 x3 x4 x5 hm; cases hm
  | succ n ih =>
    intro h x0 x1 x2 x3 x4 x5 hm
    unfold m_X8_bestIdler_8 at hm
    refine q_iload C (i := 5) 5 rfl (by decide +kernel) ?_
    refine q_aload_n C (k4 := 0) 0 rfl (by decide +kernel) ?_
    refine q_getn C fl_8_9 hm (by decide +kernel) (fun v1 hm => ?_)
    refine q_getn C fl_8_63 hm (by decide +kernel) (fun v2 hm => ?_)
    refine q_geti C fl_8_132 hm (by decide +kernel) (fun v3 hm => ?_)
    refine q_icmp_ge C (off := 72) 92 hm (by decide +kernel) (by decide) (fun _ hm => ?_) (fun _ hm => ?_)
    · refine q_iload_n C (k4 := 2) 2 rfl (by decide +kernel) ?_
      refine q_if_ne C (off := 8) 101 hm (by decide +kernel) (by decide) (fun _ hm => ?_) (fun _ hm => ?_)
      · refine q_iload_n C (k4 := 3) 3 rfl (by decide +kernel) ?_
        exact q_riS hm K rfl (by decide +kernel)
      · refine q_iload C (i := 4) 4 rfl (by decide +kernel) ?_
        refine q_goto C (off := 4) 102 (by decide +kernel) (by decide) ?_
        exact q_riS hm K rfl (by decide +kernel)
    · refine q_aload_n C (k4 := 0) 0 rfl (by decide +kernel) ?_
      refine q_vvS C Rm (As := []) (rest := []) Y_X8_startFromNow Yv_X8_startFromNow ml_X8_83 (by decide) (by decide) hm (fun h5 e9 => c_X8_startFromNow _ _ _ _ _ _ _ e9) rfl rfl (Nat.le_of_ble_eq_true rfl) (by decide +kernel) (fun h5 hm => ?_)
      refine q_iload C (i := 5) 5 rfl (by decide +kernel) ?_
      refine q_iconst C (n := (-1)) (v := (-1)) (by decide) (by decide +kernel) ?_
      refine q_icmp_eq C (off := 13) 43 hm (by decide +kernel) (by decide) (fun _ hm => ?_) (fun _ hm => ?_)
      · exact v_X8_bestIdler_43 C Rm K ih _ _ _ _ _ _ _ hm
      · refine q_aload_n C (k4 := 0) 0 rfl (by decide +kernel) ?_
        refine q_getn C fl_8_19 hm (by decide +kernel) (fun v6 hm => ?_)
        refine q_iload C (i := 5) 5 rfl (by decide +kernel) ?_
        refine q_iconst C (n := 0) (v := 0) (by decide) (by decide +kernel) ?_
        refine q_vvS C Rm (As := [.int x5, .int ((0 : Int32))]) (rest := []) Y_X1_fix Yv_X1_fix ml_X8_116 (by decide) (by decide) hm (fun h8 e9 => c_X1_fix _ _ _ _ _ _ _ _ _ e9) rfl rfl (Nat.le_of_ble_eq_true rfl) (by decide +kernel) (fun h8 hm => ?_)
        exact v_X8_bestIdler_43 C Rm K ih _ _ _ _ _ _ _ hm
def m_X8_bestIdler (h : q_H) (a0 : Nat) (a1 : Int32) (a2 : Int32) : Option (Int32 × q_H) :=
  m_X8_bestIdler_8 q_fu h a0 a1 a2 ((0 : Int32)) ((-1 : Int32)) ((-1 : Int32))
set_option maxRecDepth 20000 in
set_option maxHeartbeats 1000000 in
theorem c_X8_bestIdler (l : Launch) (base : Nat) (D : va_G) (tc : Nat → ClassId) (sz : Nat) (h : q_H) (a0 : Nat) (a1 : Int32) (a2 : Int32) {r : Int32} {h' : q_H} (hm : m_X8_bestIdler h a0 a1 a2 = some (r, h')) : q_M l yX8_bestIdler cX8_bestIdler 7 (some .int) 5 131 0 0 base D tc [.ref a0, .int a1, .int a2] sz h (some (.int r)) sz h' := by
  refine q_starti (by decide) (Nat.le_of_ble_eq_true rfl) (fun Γ B K => ?_)
  obtain ⟨C, Rm, -⟩ := B
  have C : q_C Γ cX8_bestIdler RX8 := C
  show q_V Γ sz 0 0 h [(0, .ref a0), (1, .int a1), (2, .int a2)] [] 0
  unfold m_X8_bestIdler at hm
  refine q_iconst C (n := 0) (v := 0) (by decide) (by decide +kernel) ?_
  refine q_istore_n C Rm.1 (k4 := 3) (i := 3) rfl (lv' := [(3, .int ((0 : Int32))), (0, .ref a0), (1, .int a1), (2, .int a2)]) rfl (by decide) (by decide +kernel) ?_
  refine q_iconst C (n := (-1)) (v := (-1)) (by decide) (by decide +kernel) ?_
  refine q_istore C Rm.1 (i := 4) (lv' := [(4, .int ((-1 : Int32))), (3, .int ((0 : Int32))), (0, .ref a0), (1, .int a1), (2, .int a2)]) rfl (by decide) (by decide +kernel) ?_
  refine q_iconst C (n := (-1)) (v := (-1)) (by decide) (by decide +kernel) ?_
  refine q_istore C Rm.1 (i := 5) (lv' := [(5, .int ((-1 : Int32))), (4, .int ((-1 : Int32))), (3, .int ((0 : Int32))), (0, .ref a0), (1, .int a1), (2, .int a2)]) rfl (by decide) (by decide +kernel) ?_
  refine q_loc [3, 4, 5, 2, 1, 0] rfl ?_
  exact v_X8_bestIdler_8 C Rm K _ _ _ _ _ _ _ _ hm
def m_X10_begin_66 (k25 : q_H → Nat → Nat → Int32 → Int32 → Option q_H) (h : q_H) (x0 : Nat) (x1 : Nat) (x2 : Int32) (x3 : Int32) (s0 : Int32) (s1 : Int32) (s2 : Nat) : Option q_H :=
  (q_si h s2 1 s1 s0).bind fun h15 =>
  (q_gn h15 x0 10 3).bind fun v16 =>
  (q_ai h15 v16 1 x3).bind fun v17 =>
  (q_gn h15 x0 10 5).bind fun v18 =>
  (q_gn h15 x1 4 6).bind fun v19 =>
  (q_ai h15 v19 1 x3).bind fun v20 =>
  (q_si h15 v18 1 x3 v20).bind fun h21 =>
  (q_gn h21 x0 10 6).bind fun v22 =>
  (q_si h21 v22 1 x3 ((0 : Int32))).bind fun h23 =>
  k25 h23 x0 x1 ((x2 + v17)) ((x3 + (1 : Int32)))
set_option maxRecDepth 20000 in
set_option maxHeartbeats 1000000 in
theorem v_X10_begin_66 {Γ : q_G} {sz : Nat} {h' : q_H} (C : q_C Γ cX10_begin RX10) (Rm : q_Rm Γ 4 1 20 0 0) {k25 : q_H → Nat → Nat → Int32 → Int32 → Option q_H} (K : q_K Γ cX10_begin .return_ sz h' 0 0 []) (hk25 : ∀ (h : q_H) (x0 : Nat) (x1 : Nat) (x2 : Int32) (x3 : Int32), k25 h x0 x1 x2 x3 = some h' → q_V Γ sz 0 0 h [(0, .ref x0), (1, .ref x1), (2, .int x2), (3, .int x3)] [] 25) : ∀ (h : q_H) (x0 : Nat) (x1 : Nat) (x2 : Int32) (x3 : Int32) (s0 : Int32) (s1 : Int32) (s2 : Nat), m_X10_begin_66 k25 h x0 x1 x2 x3 s0 s1 s2 = some h' → q_V Γ sz 0 0 h [(0, .ref x0), (1, .ref x1), (2, .int x2), (3, .int x3)] [.int s0, .int s1, .ref s2] 66 := by
  intro h x0 x1 x2 x3 s0 s1 s2 hm
  unfold m_X10_begin_66 at hm
  refine q_iw C hm (by decide +kernel) (fun h15 hm => ?_)
  refine q_iload_n C (k4 := 2) 2 rfl (by decide +kernel) ?_
  refine q_aload_n C (k4 := 0) 0 rfl (by decide +kernel) ?_
  refine q_getn C fl_10_9 hm (by decide +kernel) (fun v16 hm => ?_)
  refine q_iload_n C (k4 := 3) 3 rfl (by decide +kernel) ?_
  refine q_ir C hm (by decide +kernel) (fun v17 hm => ?_)
  refine q_iadd C (by decide +kernel) ?_
  refine q_istore_n C Rm.1 (k4 := 2) (i := 2) rfl (lv' := [(2, .int ((x2 + v17))), (0, .ref x0), (1, .ref x1), (3, .int x3)]) rfl (by decide) (by decide +kernel) ?_
  refine q_aload_n C (k4 := 0) 1 rfl (by decide +kernel) ?_
  refine q_getn C fl_10_18 hm (by decide +kernel) (fun v18 hm => ?_)
  refine q_iload_n C (k4 := 3) 3 rfl (by decide +kernel) ?_
  refine q_aload_n C (k4 := 1) 2 rfl (by decide +kernel) ?_
  refine q_getn C fl_10_45 hm (by decide +kernel) (fun v19 hm => ?_)
  refine q_iload_n C (k4 := 3) 3 rfl (by decide +kernel) ?_
  refine q_ir C hm (by decide +kernel) (fun v20 hm => ?_)
  refine q_iw C hm (by decide +kernel) (fun h21 hm => ?_)
  refine q_aload_n C (k4 := 0) 1 rfl (by decide +kernel) ?_
  refine q_getn C fl_10_21 hm (by decide +kernel) (fun v22 hm => ?_)
  refine q_iload_n C (k4 := 3) 3 rfl (by decide +kernel) ?_
  refine q_iconst C (n := 0) (v := 0) (by decide) (by decide +kernel) ?_
  refine q_iw C hm (by decide +kernel) (fun h23 hm => ?_)
  refine q_iinc C Rm.1 (i := 3) (n := 1) (v := (x3 + (1 : Int32))) 3 rfl (q_inc _ (by decide)) (lv' := [(3, .int ((x3 + (1 : Int32)))), (2, .int ((x2 + v17))), (0, .ref x0), (1, .ref x1)]) rfl (by decide) (by decide +kernel) ?_
  refine q_goto C (off := -73) 25 (by decide +kernel) (by decide) ?_
  refine q_loc [2, 3, 1, 0] rfl ?_
  exact hk25 _ _ _ _ _ hm
def m_X10_begin_25  : Nat → q_H → Nat → Nat → Int32 → Int32 → Option q_H
  | 0, _, _, _, _, _ => none
  | n + 1, h, x0, x1, x2, x3 =>
    (q_gi h x1 4 3).bind fun v7 =>
    if v7 ≤ x3 then
      some h
    else
      (q_gn h x0 10 3).bind fun v8 =>
      (q_gn h x1 4 4).bind fun v9 =>
      (q_ai h v9 1 x3).bind fun v10 =>
      (q_si h v8 1 x3 v10).bind fun h11 =>
      (q_gn h11 x0 10 4).bind fun v12 =>
      (q_gn h11 x0 10 3).bind fun v13 =>
      (q_ai h11 v13 1 x3).bind fun v14 =>
      if v14 = 0 then
        m_X10_begin_66 (m_X10_begin_25 n) h11 x0 x1 x2 x3 ((x3 - x2)) x3 v12
      else
        m_X10_begin_66 (m_X10_begin_25 n) h11 x0 x1 x2 x3 x2 x3 v12
set_option maxRecDepth 20000 in
set_option maxHeartbeats 1000000 in
theorem v_X10_begin_25 {Γ : q_G} {sz : Nat} {h' : q_H} (C : q_C Γ cX10_begin RX10) (Rm : q_Rm Γ 4 1 20 0 0)  (K : q_K Γ cX10_begin .return_ sz h' 0 0 [])  : ∀ (n : Nat) (h : q_H) (x0 : Nat) (x1 : Nat) (x2 : Int32) (x3 : Int32), m_X10_begin_25 n h x0 x1 x2 x3 = some h' → q_V Γ sz 0 0 h [(0, .ref x0), (1, .ref x1), (2, .int x2), (3, .int x3)] [] 25 := by
  intro n
  induction n with
  | zero => intro h x0 x1 x2 x3 hm; cases hm
  | succ n ih =>
    intro h x0 x1 x2 x3 hm
    unfold m_X10_begin_25 at hm
    refine q_iload_n C (k4 := 3) 3 rfl (by decide +kernel) ?_
    refine q_aload_n C (k4 := 1) 1 rfl (by decide +kernel) ?_
    refine q_geti C fl_10_41 hm (by decide +kernel) (fun v7 hm => ?_)
    refine q_icmp_ge C (off := 71) 101 hm (by decide +kernel) (by decide) (fun _ hm => ?_) (fun _ hm => ?_)
    · exact q_rvS hm K (by decide +kernel)
    · refine q_aload_n C (k4 := 0) 0 rfl (by decide +kernel) ?_
      refine q_getn C fl_10_9 hm (by decide +kernel) (fun v8 hm => ?_)
      refine q_iload_n C (k4 := 3) 3 rfl (by decide +kernel) ?_
      refine q_aload_n C (k4 := 1) 1 rfl (by decide +kernel) ?_
      refine q_getn C fl_10_44 hm (by decide +kernel) (fun v9 hm => ?_)
      refine q_iload_n C (k4 := 3) 3 rfl (by decide +kernel) ?_
      refine q_ir C hm (by decide +kernel) (fun v10 hm => ?_)
      refine q_iw C hm (by decide +kernel) (fun h11 hm => ?_)
      refine q_aload_n C (k4 := 0) 0 rfl (by decide +kernel) ?_
      refine q_getn C fl_10_15 hm (by decide +kernel) (fun v12 hm => ?_)
      refine q_iload_n C (k4 := 3) 3 rfl (by decide +kernel) ?_
      refine q_aload_n C (k4 := 0) 0 rfl (by decide +kernel) ?_
      refine q_getn C fl_10_9 hm (by decide +kernel) (fun v13 hm => ?_)
      refine q_iload_n C (k4 := 3) 3 rfl (by decide +kernel) ?_
      refine q_ir C hm (by decide +kernel) (fun v14 hm => ?_)
      refine q_if_ne C (off := 9) 65 hm (by decide +kernel) (by decide) (fun _ hm => ?_) (fun _ hm => ?_)
      · refine q_iload_n C (k4 := 2) 2 rfl (by decide +kernel) ?_
        exact v_X10_begin_66 C Rm K ih _ _ _ _ _ _ _ _ hm
      · refine q_iload_n C (k4 := 3) 3 rfl (by decide +kernel) ?_
        refine q_iload_n C (k4 := 2) 2 rfl (by decide +kernel) ?_
        refine q_isub C (by decide +kernel) ?_
        refine q_goto C (off := 4) 66 (by decide +kernel) (by decide) ?_
        exact v_X10_begin_66 C Rm K ih _ _ _ _ _ _ _ _ hm
def m_X10_begin (h : q_H) (a0 : Nat) (a1 : Nat) : Option q_H :=
  (q_gi h a1 4 2).bind fun v1 =>
  (q_pf h a0 10 0 (.int v1)).bind fun h2 =>
  (q_pf h2 a0 10 1 (.int ((0 : Int32)))).bind fun h3 =>
  (q_ca 4 h3 a1 (m_X4_everyone h3 a1)).bind fun r4 =>
  (q_pf h3 a0 10 2 (.int r4)).bind fun h6 =>
  m_X10_begin_25 q_fu h6 a0 a1 ((0 : Int32)) ((0 : Int32))
set_option maxRecDepth 20000 in
set_option maxHeartbeats 1000000 in
theorem c_X10_begin (l : Launch) (base : Nat) (D : va_G) (tc : Nat → ClassId) (sz : Nat) (h : q_H) (a0 : Nat) (a1 : Nat) {h' : q_H} (hm : m_X10_begin h a0 a1 = some h') : q_M l yX10_begin cX10_begin 4 none 1 20 0 0 base D tc [.ref a0, .ref a1] sz h none sz h' := by
  refine q_startv (by decide) (Nat.le_of_ble_eq_true rfl) (fun Γ B K => ?_)
  obtain ⟨C, Rm, -⟩ := B
  have C : q_C Γ cX10_begin RX10 := C
  show q_V Γ sz 0 0 h [(0, .ref a0), (1, .ref a1)] [] 0
  unfold m_X10_begin at hm
  refine q_aload_n C (k4 := 0) 0 rfl (by decide +kernel) ?_
  refine q_aload_n C (k4 := 1) 1 rfl (by decide +kernel) ?_
  refine q_geti C fl_10_24 hm (by decide +kernel) (fun v1 hm => ?_)
  refine q_putf C fl_10_30 hm rfl rfl (by decide +kernel) (fun h2 hm => ?_)
  refine q_aload_n C (k4 := 0) 0 rfl (by decide +kernel) ?_
  refine q_iconst C (n := 0) (v := 0) (by decide) (by decide +kernel) ?_
  refine q_putf C fl_10_31 hm rfl rfl (by decide +kernel) (fun h3 hm => ?_)
  refine q_aload_n C (k4 := 0) 0 rfl (by decide +kernel) ?_
  refine q_aload_n C (k4 := 1) 1 rfl (by decide +kernel) ?_
  refine q_viP C Rm (As := []) (rest := [.ref a0]) Y_X4_everyone Yv_X4_everyone ml_X10_34 (by decide) (by decide) hm (fun r9 e9 => c_X4_everyone _ _ _ _ _ _ _ e9) rfl rfl (Nat.le_of_ble_eq_true rfl) (by decide +kernel) (fun r4 hm z5 => ?_)
  refine q_putf C fl_10_38 hm rfl rfl (by decide +kernel) (fun h6 hm => ?_)
  refine q_iconst C (n := 0) (v := 0) (by decide) (by decide +kernel) ?_
  refine q_istore_n C Rm.1 (k4 := 2) (i := 2) rfl (lv' := [(2, .int ((0 : Int32))), (0, .ref a0), (1, .ref a1)]) rfl (by decide) (by decide +kernel) ?_
  refine q_iconst C (n := 0) (v := 0) (by decide) (by decide +kernel) ?_
  refine q_istore_n C Rm.1 (k4 := 3) (i := 3) rfl (lv' := [(3, .int ((0 : Int32))), (2, .int ((0 : Int32))), (0, .ref a0), (1, .ref a1)]) rfl (by decide) (by decide +kernel) ?_
  refine q_loc [2, 3, 1, 0] rfl ?_
  exact v_X10_begin_25 C Rm K _ _ _ _ _ _ hm
def m_X8_isAsNoted_28  : Nat → q_H → Nat → Int32 → Int32 → Option (Int32 × q_H)
  | 0, _, _, _, _ => none
  | n + 1, h, x0, x3, x4 =>
    if x3 < x4 then
      some ((1 : Int32), h)
    else
      (q_gn h x0 8 2).bind fun v10 =>
      (q_gn h x0 8 3).bind fun v11 =>
      (q_ca 1 h v10 (m_X1_heaveOn h v10 v11 ((1 : Int32)))).bind fun h13 =>
      (q_gn h13 x0 8 0).bind fun v14 =>
      (q_gn h13 x0 8 3).bind fun v15 =>
      (q_gi h13 v15 10 0).bind fun v16 =>
      (q_ca 0 h13 v14 (m_X0_notesAllow h13 v14 x4 v16)).bind fun r17 =>
      if r17 = 0 then
        some ((0 : Int32), h13)
      else
        m_X8_isAsNoted_28 n h13 x0 x3 ((x4 + (1 : Int32)))
set_option maxRecDepth 20000 in
set_option maxHeartbeats 1000000 in
theorem v_X8_isAsNoted_28 {Γ : q_G} {sz : Nat} {r : Int32} {h' : q_H} (C : q_C Γ cX8_isAsNoted RX8) (Rm : q_Rm Γ 5 5 131 0 0)  (K : narrow .boolean (.int r) = .int r → q_K Γ cX8_isAsNoted .ireturn sz h' 0 0 [.int r])  : ∀ (n : Nat) (h : q_H) (x0 : Nat) (x3 : Int32) (x4 : Int32), m_X8_isAsNoted_28 n h x0 x3 x4 = some (r, h') → q_V Γ sz 0 0 h [(0, .ref x0), (3, .int x3), (4, .int x4)] [] 28 := by
  intro n
  induction n with
  | zero => intro h x0 x3 x4 hm; cases hm
  | succ n ih =>
    intro h x0 x3 x4 hm
    unfold m_X8_isAsNoted_28 at hm
    refine q_iload C (i := 4) 2 rfl (by decide +kernel) ?_
    refine q_iload_n C (k4 := 3) 1 rfl (by decide +kernel) ?_
    refine q_icmp_gt C (off := 42) 73 hm (by decide +kernel) (by decide) (fun _ hm => ?_) (fun _ hm => ?_)
    · refine q_iconst C (n := 1) (v := 1) (by decide) (by decide +kernel) ?_
      exact q_riS hm K q_z1 (by decide +kernel)
    · refine q_aload_n C (k4 := 0) 0 rfl (by decide +kernel) ?_
      refine q_getn C fl_8_19 hm (by decide +kernel) (fun v10 hm => ?_)
      refine q_aload_n C (k4 := 0) 0 rfl (by decide +kernel) ?_
      refine q_getn C fl_8_26 hm (by decide +kernel) (fun v11 hm => ?_)
      refine q_iconst C (n := 1) (v := 1) (by decide) (by decide +kernel) ?_
      refine q_vvS C Rm (As := [.ref v11, .int ((1 : Int32))]) (rest := []) Y_X1_heaveOn Yv_X1_heaveOn ml_X8_86 (by decide) (by decide) hm (fun h13 e9 => c_X1_heaveOn _ _ _ _ _ _ _ _ _ e9) rfl rfl (Nat.le_of_ble_eq_true rfl) (by decide +kernel) (fun h13 hm => ?_)
      refine q_aload_n C (k4 := 0) 0 rfl (by decide +kernel) ?_
      refine q_getn C fl_8_9 hm (by decide +kernel) (fun v14 hm => ?_)
      refine q_iload C (i := 4) 2 rfl (by decide +kernel) ?_
      refine q_aload_n C (k4 := 0) 0 rfl (by decide +kernel) ?_
      refine q_getn C fl_8_26 hm (by decide +kernel) (fun v15 hm => ?_)
      refine q_geti C fl_8_90 hm (by decide +kernel) (fun v16 hm => ?_)
      refine q_viP C Rm (As := [.int x4, .int v16]) (rest := []) Y_X0_notesAllow Yv_X0_notesAllow ml_X8_160 (by decide) (by decide) hm (fun r9 e9 => c_X0_notesAllow _ _ _ _ _ _ _ _ _ e9) rfl rfl (Nat.le_of_ble_eq_true rfl) (by decide +kernel) (fun r17 hm z18 => ?_)
      refine q_if_ne C (off := 5) 67 hm (by decide +kernel) (by decide) (fun _ hm => ?_) (fun _ hm => ?_)
      · refine q_iinc C Rm.1 (i := 4) (n := 1) (v := (x4 + (1 : Int32))) 2 rfl (q_inc _ (by decide)) (lv' := [(4, .int ((x4 + (1 : Int32)))), (0, .ref x0), (3, .int x3)]) rfl (by decide) (by decide +kernel) ?_
        refine q_goto C (off := -42) 28 (by decide +kernel) (by decide) ?_
        refine q_loc [1, 2, 0] rfl ?_
        exact ih _ _ _ _ hm
      · refine q_iconst C (n := 0) (v := 0) (by decide) (by decide +kernel) ?_
        exact q_riS hm K q_z0 (by decide +kernel)
def m_X8_isAsNoted (h : q_H) (a0 : Nat) (a1 : Nat) (a2 : Option Nat) : Option (Int32 × q_H) :=
  (q_gn h a0 8 2).bind fun v1 =>
  (q_ca 1 h v1 (m_X1_takeUp h v1 a1 a2)).bind fun h3 =>
  (q_gn h3 a0 8 3).bind fun v4 =>
  (q_ca 10 h3 v4 (m_X10_begin h3 v4 a1)).bind fun h6 =>
  (q_gn h6 a0 8 0).bind fun v7 =>
  (q_ca 0 h6 v7 (m_X0_lastNoted h6 v7)).bind fun r8 =>
  m_X8_isAsNoted_28 q_fu h6 a0 r8 ((0 : Int32))
set_option maxRecDepth 20000 in
set_option maxHeartbeats 1000000 in
theorem c_X8_isAsNoted (l : Launch) (base : Nat) (D : va_G) (tc : Nat → ClassId) (sz : Nat) (h : q_H) (a0 : Nat) (a1 : Nat) (a2 : Option Nat) {r : Int32} {h' : q_H} (hm : m_X8_isAsNoted h a0 a1 a2 = some (r, h')) : q_M l yX8_isAsNoted cX8_isAsNoted 5 (some .boolean) 5 131 0 0 base D tc [.ref a0, .ref a1, va_rf a2] sz h (some (.int r)) sz h' := by
  refine q_starti (by decide) (by cases a2 <;> exact Nat.le_of_ble_eq_true rfl) (fun Γ B K => ?_)
  obtain ⟨C, Rm, -⟩ := B
  have C : q_C Γ cX8_isAsNoted RX8 := C
  rw [show lv_args 0 [.ref a0, .ref a1, va_rf a2] = [(0, .ref a0), (1, .ref a1), (2, va_rf a2)] from by cases a2 <;> rfl]
  unfold m_X8_isAsNoted at hm
  refine q_aload_n C (k4 := 0) 0 rfl (by decide +kernel) ?_
  refine q_getn C fl_8_19 hm (by decide +kernel) (fun v1 hm => ?_)
  refine q_aload_n C (k4 := 1) 1 rfl (by decide +kernel) ?_
  refine q_aload_nO C (k4 := 2) 2 rfl (by decide +kernel) ?_
  refine q_vvS C Rm (As := [.ref a1, va_rf a2]) (rest := []) Y_X1_takeUp Yv_X1_takeUp ml_X8_70 (by decide) (by decide) hm (fun h3 e9 => c_X1_takeUp _ _ _ _ _ _ _ _ _ e9) rfl rfl (Nat.le_of_ble_eq_true rfl) (by decide +kernel) (fun h3 hm => ?_)
  refine q_aload_n C (k4 := 0) 0 rfl (by decide +kernel) ?_
  refine q_getn C fl_8_26 hm (by decide +kernel) (fun v4 hm => ?_)
  refine q_aload_n C (k4 := 1) 1 rfl (by decide +kernel) ?_
  refine q_vvS C Rm (As := [.ref a1]) (rest := []) Y_X10_begin Yv_X10_begin ml_X8_153 (by decide) (by decide) hm (fun h6 e9 => c_X10_begin _ _ _ _ _ _ _ _ e9) rfl rfl (Nat.le_of_ble_eq_true rfl) (by decide +kernel) (fun h6 hm => ?_)
  refine q_aload_n C (k4 := 0) 0 rfl (by decide +kernel) ?_
  refine q_getn C fl_8_9 hm (by decide +kernel) (fun v7 hm => ?_)
  refine q_viP C Rm (As := []) (rest := []) Y_X0_lastNoted Yv_X0_lastNoted ml_X8_156 (by decide) (by decide) hm (fun r9 e9 => c_X0_lastNoted _ _ _ _ _ _ _ e9) rfl rfl (Nat.le_of_ble_eq_true rfl) (by decide +kernel) (fun r8 hm z9 => ?_)
  refine q_loc [0, 1] rfl ?_
  refine q_istore_n C Rm.1 (k4 := 3) (i := 3) rfl (lv' := [(3, .int r8), (0, .ref a0), (1, .ref a1)]) rfl (by decide) (by decide +kernel) ?_
  refine q_iconst C (n := 0) (v := 0) (by decide) (by decide +kernel) ?_
  refine q_istore C Rm.1 (i := 4) (lv' := [(4, .int ((0 : Int32))), (3, .int r8), (0, .ref a0), (1, .ref a1)]) rfl (by decide) (by decide +kernel) ?_
  refine q_loc [2, 1, 0] rfl ?_
  exact v_X8_isAsNoted_28 C Rm K _ _ _ _ _ hm
def m_X8_possibleStrengths_63 (k24 : q_H → Nat → Int32 → Int32 → Int32 → Int32 → Int32 → Option (Int32 × q_H)) (h : q_H) (x0 : Nat) (x1 : Int32) (x2 : Int32) (x3 : Int32) (x4 : Int32) (x5 : Int32) : Option (Int32 × q_H) :=
  k24 h x0 x1 x2 x3 x4 ((x5 + (-1 : Int32)))
set_option maxRecDepth 20000 in
set_option maxHeartbeats 1000000 in
theorem v_X8_possibleStrengths_63 {Γ : q_G} {sz : Nat} {r : Int32} {h' : q_H} (C : q_C Γ cX8_possibleStrengths RX8) (Rm : q_Rm Γ 6 6 155 0 0) {k24 : q_H → Nat → Int32 → Int32 → Int32 → Int32 → Int32 → Option (Int32 × q_H)} (K : narrow .int (.int r) = .int r → q_K Γ cX8_possibleStrengths .ireturn sz h' 0 0 [.int r]) (hk24 : ∀ (h : q_H) (x0 : Nat) (x1 : Int32) (x2 : Int32) (x3 : Int32) (x4 : Int32) (x5 : Int32), k24 h x0 x1 x2 x3 x4 x5 = some (r, h') → q_V Γ sz 0 0 h [(0, .ref x0), (1, .int x1), (2, .int x2), (3, .int x3), (4, .int x4), (5, .int x5)] [] 24) : ∀ (h : q_H) (x0 : Nat) (x1 : Int32) (x2 : Int32) (x3 : Int32) (x4 : Int32) (x5 : Int32), m_X8_possibleStrengths_63 k24 h x0 x1 x2 x3 x4 x5 = some (r, h') → q_V Γ sz 0 0 h [(0, .ref x0), (1, .int x1), (2, .int x2), (3, .int x3), (4, .int x4), (5, .int x5)] [] 63 := by
  intro h x0 x1 x2 x3 x4 x5 hm
  unfold m_X8_possibleStrengths_63 at hm
  refine q_iinc C Rm.1 (i := 5) (n := (-1)) (v := (x5 + (-1 : Int32))) 5 rfl (q_inc _ (by decide)) (lv' := [(5, .int ((x5 + (-1 : Int32)))), (0, .ref x0), (1, .int x1), (2, .int x2), (3, .int x3), (4, .int x4)]) rfl (by decide) (by decide +kernel) ?_
  refine q_goto C (off := -42) 24 (by decide +kernel) (by decide) ?_
  refine q_loc [1, 2, 3, 4, 5, 0] rfl ?_
  exact hk24 _ _ _ _ _ _ _ hm
def m_X8_possibleStrengths_24  : Nat → q_H → Nat → Int32 → Int32 → Int32 → Int32 → Int32 → Option (Int32 × q_H)
  | 0, _, _, _, _, _, _, _ => none
  | n + 1, h, x0, x1, x2, x3, x4, x5 =>
    if x5 < (1 : Int32) then
      if x2 = 0 then
        some (x3, h)
      else
        some (x4, h)
    else
      (q_gn h x0 8 4).bind fun v6 =>
      (q_gn h v6 4 5).bind fun v7 =>
      (q_si h v7 1 x1 x5).bind fun h8 =>
      (q_gn h8 x0 8 4).bind fun v9 =>
      (q_ca 8 h8 x0 (m_X8_ruleInForce h8 x0)).bind fun r10 =>
      (q_ca 8 h8 x0 (m_X8_isAsNoted h8 x0 v9 r10)).bind fun (r11, h12) =>
      if r11 = 0 then
        m_X8_possibleStrengths_63 (m_X8_possibleStrengths_24 n) h12 x0 x1 x2 x3 x4 x5
      else
        m_X8_possibleStrengths_63 (m_X8_possibleStrengths_24 n) h12 x0 x1 x2 ((x3 + (1 : Int32))) x5 x5
set_option maxRecDepth 20000 in
set_option maxHeartbeats 1000000 in
theorem v_X8_possibleStrengths_24 {Γ : q_G} {sz : Nat} {r : Int32} {h' : q_H} (C : q_C Γ cX8_possibleStrengths RX8) (Rm : q_Rm Γ 6 6 155 0 0)  (K : narrow .int (.int r) = .int r → q_K Γ cX8_possibleStrengths .ireturn sz h' 0 0 [.int r])  : ∀ (n : Nat) (h : q_H) (x0 : Nat) (x1 : Int32) (x2 : Int32) (x3 : Int32) (x4 : Int32) (x5 : Int32), m_X8_possibleStrengths_24 n h x0 x1 x2 x3 x4 x5 = some (r, h') → q_V Γ sz 0 0 h [(0, .ref x0), (1, .int x1), (2, .int x2), (3, .int x3), (4, .int x4), (5, .int x5)] [] 24 := by
  intro n
  induction n with
  | zero => intro h x0 x1 x2 x3 x4 x5 hm; cases hm
  | succ n ih =>
    intro h x0 x1 x2 x3 x4 x5 hm
    unfold m_X8_possibleStrengths_24 at hm
    refine q_iload C (i := 5) 5 rfl (by decide +kernel) ?_
    refine q_iconst C (n := 1) (v := 1) (by decide) (by decide +kernel) ?_
    refine q_icmp_lt C (off := 42) 69 hm (by decide +kernel) (by decide) (fun _ hm => ?_) (fun _ hm => ?_)
    · refine q_iload_n C (k4 := 2) 2 rfl (by decide +kernel) ?_
      refine q_if_ne C (off := 7) 77 hm (by decide +kernel) (by decide) (fun _ hm => ?_) (fun _ hm => ?_)
      · refine q_iload C (i := 4) 4 rfl (by decide +kernel) ?_
        exact q_riS hm K rfl (by decide +kernel)
      · refine q_iload_n C (k4 := 3) 3 rfl (by decide +kernel) ?_
        refine q_goto C (off := 5) 79 (by decide +kernel) (by decide) ?_
        exact q_riS hm K rfl (by decide +kernel)
    · refine q_aload_n C (k4 := 0) 0 rfl (by decide +kernel) ?_
      refine q_getn C fl_8_33 hm (by decide +kernel) (fun v6 hm => ?_)
      refine q_getn C fl_8_145 hm (by decide +kernel) (fun v7 hm => ?_)
      refine q_iload_n C (k4 := 1) 1 rfl (by decide +kernel) ?_
      refine q_iload C (i := 5) 5 rfl (by decide +kernel) ?_
      refine q_iw C hm (by decide +kernel) (fun h8 hm => ?_)
      refine q_aload_n C (k4 := 0) 0 rfl (by decide +kernel) ?_
      refine q_aload_n C (k4 := 0) 0 rfl (by decide +kernel) ?_
      refine q_getn C fl_8_33 hm (by decide +kernel) (fun v9 hm => ?_)
      refine q_aload_n C (k4 := 0) 0 rfl (by decide +kernel) ?_
      refine q_voP C Rm (As := []) (rest := [.ref v9, .ref x0]) Y_X8_ruleInForce Yv_X8_ruleInForce ml_X8_66 (by decide) (by decide) hm (fun r9 e9 => c_X8_ruleInForce _ _ _ _ _ _ _ e9) rfl rfl (Nat.le_of_ble_eq_true rfl) (by decide +kernel) (fun r10 hm => ?_)
      refine q_viS C Rm (As := [.ref v9, va_rf r10]) (rest := []) Y_X8_isAsNoted Yv_X8_isAsNoted ml_X8_148 (by decide) (by decide) hm (fun r11 h12 e9 => c_X8_isAsNoted _ _ _ _ _ _ _ _ _ e9) rfl rfl (Nat.le_of_ble_eq_true rfl) (by decide +kernel) (fun r11 h12 hm z13 => ?_)
      refine q_if_eq C (off := 10) 63 hm (by decide +kernel) (by decide) (fun _ hm => ?_) (fun _ hm => ?_)
      · exact v_X8_possibleStrengths_63 C Rm K ih _ _ _ _ _ _ _ hm
      · refine q_iinc C Rm.1 (i := 3) (n := 1) (v := (x3 + (1 : Int32))) 3 rfl (q_inc _ (by decide)) (lv' := [(3, .int ((x3 + (1 : Int32)))), (0, .ref x0), (1, .int x1), (2, .int x2), (4, .int x4), (5, .int x5)]) rfl (by decide) (by decide +kernel) ?_
        refine q_iload C (i := 5) 5 rfl (by decide +kernel) ?_
        refine q_istore C Rm.1 (i := 4) (lv' := [(4, .int x5), (3, .int ((x3 + (1 : Int32)))), (0, .ref x0), (1, .int x1), (2, .int x2), (5, .int x5)]) rfl (by decide) (by decide +kernel) ?_
        refine q_loc [2, 3, 4, 1, 0, 5] rfl ?_
        exact v_X8_possibleStrengths_63 C Rm K ih _ _ _ _ _ _ _ hm
def m_X8_possibleStrengths (h : q_H) (a0 : Nat) (a1 : Int32) (a2 : Int32) : Option (Int32 × q_H) :=
  (q_gn h a0 8 4).bind fun v1 =>
  (q_gn h a0 8 0).bind fun v2 =>
  (q_gn h v2 0 0).bind fun v3 =>
  (q_ca 4 h v1 (m_X4_copyFrom h v1 v3)).bind fun h5 =>
  m_X8_possibleStrengths_24 q_fu h5 a0 a1 a2 ((0 : Int32)) ((-2 : Int32)) ((40 : Int32))
set_option maxRecDepth 20000 in
set_option maxHeartbeats 1000000 in
theorem c_X8_possibleStrengths (l : Launch) (base : Nat) (D : va_G) (tc : Nat → ClassId) (sz : Nat) (h : q_H) (a0 : Nat) (a1 : Int32) (a2 : Int32) {r : Int32} {h' : q_H} (hm : m_X8_possibleStrengths h a0 a1 a2 = some (r, h')) : q_M l yX8_possibleStrengths cX8_possibleStrengths 6 (some .int) 6 155 0 0 base D tc [.ref a0, .int a1, .int a2] sz h (some (.int r)) sz h' := by
  refine q_starti (by decide) (Nat.le_of_ble_eq_true rfl) (fun Γ B K => ?_)
  obtain ⟨C, Rm, -⟩ := B
  have C : q_C Γ cX8_possibleStrengths RX8 := C
  show q_V Γ sz 0 0 h [(0, .ref a0), (1, .int a1), (2, .int a2)] [] 0
  unfold m_X8_possibleStrengths at hm
  refine q_iconst C (n := 0) (v := 0) (by decide) (by decide +kernel) ?_
  refine q_istore_n C Rm.1 (k4 := 3) (i := 3) rfl (lv' := [(3, .int ((0 : Int32))), (0, .ref a0), (1, .int a1), (2, .int a2)]) rfl (by decide) (by decide +kernel) ?_
  refine q_bipush C (n := (-2)) (v := (-2)) (by decide) (by decide +kernel) ?_
  refine q_istore C Rm.1 (i := 4) (lv' := [(4, .int ((-2 : Int32))), (3, .int ((0 : Int32))), (0, .ref a0), (1, .int a1), (2, .int a2)]) rfl (by decide) (by decide +kernel) ?_
  refine q_aload_n C (k4 := 0) 2 rfl (by decide +kernel) ?_
  refine q_getn C fl_8_33 hm (by decide +kernel) (fun v1 hm => ?_)
  refine q_aload_n C (k4 := 0) 2 rfl (by decide +kernel) ?_
  refine q_getn C fl_8_9 hm (by decide +kernel) (fun v2 hm => ?_)
  refine q_getn C fl_8_63 hm (by decide +kernel) (fun v3 hm => ?_)
  refine q_vvS C Rm (As := [.ref v3]) (rest := []) Y_X4_copyFrom Yv_X4_copyFrom ml_X8_142 (by decide) (by decide) hm (fun h5 e9 => c_X4_copyFrom _ _ _ _ _ _ _ _ e9) rfl rfl (Nat.le_of_ble_eq_true rfl) (by decide +kernel) (fun h5 hm => ?_)
  refine q_bipush C (n := 40) (v := 40) (by decide) (by decide +kernel) ?_
  refine q_istore C Rm.1 (i := 5) (lv' := [(5, .int ((40 : Int32))), (4, .int ((-2 : Int32))), (3, .int ((0 : Int32))), (0, .ref a0), (1, .int a1), (2, .int a2)]) rfl (by decide) (by decide +kernel) ?_
  refine q_loc [3, 4, 5, 2, 1, 0] rfl ?_
  exact v_X8_possibleStrengths_24 C Rm K _ _ _ _ _ _ _ _ hm
def m_X8_possibleWinds_62 (k24 : q_H → Nat → Int32 → Int32 → Int32 → Int32 → Int32 → Option (Int32 × q_H)) (h : q_H) (x0 : Nat) (x1 : Int32) (x2 : Int32) (x3 : Int32) (x4 : Int32) (x5 : Int32) : Option (Int32 × q_H) :=
  k24 h x0 x1 x2 x3 x4 ((x5 + (-1 : Int32)))
set_option maxRecDepth 20000 in
set_option maxHeartbeats 1000000 in
theorem v_X8_possibleWinds_62 {Γ : q_G} {sz : Nat} {r : Int32} {h' : q_H} (C : q_C Γ cX8_possibleWinds RX8) (Rm : q_Rm Γ 6 6 155 0 0) {k24 : q_H → Nat → Int32 → Int32 → Int32 → Int32 → Int32 → Option (Int32 × q_H)} (K : narrow .int (.int r) = .int r → q_K Γ cX8_possibleWinds .ireturn sz h' 0 0 [.int r]) (hk24 : ∀ (h : q_H) (x0 : Nat) (x1 : Int32) (x2 : Int32) (x3 : Int32) (x4 : Int32) (x5 : Int32), k24 h x0 x1 x2 x3 x4 x5 = some (r, h') → q_V Γ sz 0 0 h [(0, .ref x0), (1, .int x1), (2, .int x2), (3, .int x3), (4, .int x4), (5, .int x5)] [] 24) : ∀ (h : q_H) (x0 : Nat) (x1 : Int32) (x2 : Int32) (x3 : Int32) (x4 : Int32) (x5 : Int32), m_X8_possibleWinds_62 k24 h x0 x1 x2 x3 x4 x5 = some (r, h') → q_V Γ sz 0 0 h [(0, .ref x0), (1, .int x1), (2, .int x2), (3, .int x3), (4, .int x4), (5, .int x5)] [] 62 := by
  intro h x0 x1 x2 x3 x4 x5 hm
  unfold m_X8_possibleWinds_62 at hm
  refine q_iinc C Rm.1 (i := 5) (n := (-1)) (v := (x5 + (-1 : Int32))) 5 rfl (q_inc _ (by decide)) (lv' := [(5, .int ((x5 + (-1 : Int32)))), (0, .ref x0), (1, .int x1), (2, .int x2), (3, .int x3), (4, .int x4)]) rfl (by decide) (by decide +kernel) ?_
  refine q_goto C (off := -41) 24 (by decide +kernel) (by decide) ?_
  refine q_loc [1, 2, 3, 4, 5, 0] rfl ?_
  exact hk24 _ _ _ _ _ _ _ hm
def m_X8_possibleWinds_24  : Nat → q_H → Nat → Int32 → Int32 → Int32 → Int32 → Int32 → Option (Int32 × q_H)
  | 0, _, _, _, _, _, _, _ => none
  | n + 1, h, x0, x1, x2, x3, x4, x5 =>
    if x5 < 0 then
      if x2 = 0 then
        some (x3, h)
      else
        some (x4, h)
    else
      (q_gn h x0 8 4).bind fun v6 =>
      (q_gn h v6 4 6).bind fun v7 =>
      (q_si h v7 1 x1 x5).bind fun h8 =>
      (q_gn h8 x0 8 4).bind fun v9 =>
      (q_ca 8 h8 x0 (m_X8_ruleInForce h8 x0)).bind fun r10 =>
      (q_ca 8 h8 x0 (m_X8_isAsNoted h8 x0 v9 r10)).bind fun (r11, h12) =>
      if r11 = 0 then
        m_X8_possibleWinds_62 (m_X8_possibleWinds_24 n) h12 x0 x1 x2 x3 x4 x5
      else
        m_X8_possibleWinds_62 (m_X8_possibleWinds_24 n) h12 x0 x1 x2 ((x3 + (1 : Int32))) x5 x5
set_option maxRecDepth 20000 in
set_option maxHeartbeats 1000000 in
theorem v_X8_possibleWinds_24 {Γ : q_G} {sz : Nat} {r : Int32} {h' : q_H} (C : q_C Γ cX8_possibleWinds RX8) (Rm : q_Rm Γ 6 6 155 0 0)  (K : narrow .int (.int r) = .int r → q_K Γ cX8_possibleWinds .ireturn sz h' 0 0 [.int r])  : ∀ (n : Nat) (h : q_H) (x0 : Nat) (x1 : Int32) (x2 : Int32) (x3 : Int32) (x4 : Int32) (x5 : Int32), m_X8_possibleWinds_24 n h x0 x1 x2 x3 x4 x5 = some (r, h') → q_V Γ sz 0 0 h [(0, .ref x0), (1, .int x1), (2, .int x2), (3, .int x3), (4, .int x4), (5, .int x5)] [] 24 := by
  intro n
  induction n with
  | zero => intro h x0 x1 x2 x3 x4 x5 hm; cases hm
  | succ n ih =>
    intro h x0 x1 x2 x3 x4 x5 hm
    unfold m_X8_possibleWinds_24 at hm
    refine q_iload C (i := 5) 5 rfl (by decide +kernel) ?_
    refine q_if_lt C (off := 42) 68 hm (by decide +kernel) (by decide) (fun _ hm => ?_) (fun _ hm => ?_)
    · refine q_iload_n C (k4 := 2) 2 rfl (by decide +kernel) ?_
      refine q_if_ne C (off := 7) 76 hm (by decide +kernel) (by decide) (fun _ hm => ?_) (fun _ hm => ?_)
      · refine q_iload C (i := 4) 4 rfl (by decide +kernel) ?_
        exact q_riS hm K rfl (by decide +kernel)
      · refine q_iload_n C (k4 := 3) 3 rfl (by decide +kernel) ?_
        refine q_goto C (off := 5) 78 (by decide +kernel) (by decide) ?_
        exact q_riS hm K rfl (by decide +kernel)
    · refine q_aload_n C (k4 := 0) 0 rfl (by decide +kernel) ?_
      refine q_getn C fl_8_33 hm (by decide +kernel) (fun v6 hm => ?_)
      refine q_getn C fl_8_152 hm (by decide +kernel) (fun v7 hm => ?_)
      refine q_iload_n C (k4 := 1) 1 rfl (by decide +kernel) ?_
      refine q_iload C (i := 5) 5 rfl (by decide +kernel) ?_
      refine q_iw C hm (by decide +kernel) (fun h8 hm => ?_)
      refine q_aload_n C (k4 := 0) 0 rfl (by decide +kernel) ?_
      refine q_aload_n C (k4 := 0) 0 rfl (by decide +kernel) ?_
      refine q_getn C fl_8_33 hm (by decide +kernel) (fun v9 hm => ?_)
      refine q_aload_n C (k4 := 0) 0 rfl (by decide +kernel) ?_
      refine q_voP C Rm (As := []) (rest := [.ref v9, .ref x0]) Y_X8_ruleInForce Yv_X8_ruleInForce ml_X8_66 (by decide) (by decide) hm (fun r9 e9 => c_X8_ruleInForce _ _ _ _ _ _ _ e9) rfl rfl (Nat.le_of_ble_eq_true rfl) (by decide +kernel) (fun r10 hm => ?_)
      refine q_viS C Rm (As := [.ref v9, va_rf r10]) (rest := []) Y_X8_isAsNoted Yv_X8_isAsNoted ml_X8_148 (by decide) (by decide) hm (fun r11 h12 e9 => c_X8_isAsNoted _ _ _ _ _ _ _ _ _ e9) rfl rfl (Nat.le_of_ble_eq_true rfl) (by decide +kernel) (fun r11 h12 hm z13 => ?_)
      refine q_if_eq C (off := 10) 62 hm (by decide +kernel) (by decide) (fun _ hm => ?_) (fun _ hm => ?_)
      · exact v_X8_possibleWinds_62 C Rm K ih _ _ _ _ _ _ _ hm
      · refine q_iinc C Rm.1 (i := 3) (n := 1) (v := (x3 + (1 : Int32))) 3 rfl (q_inc _ (by decide)) (lv' := [(3, .int ((x3 + (1 : Int32)))), (0, .ref x0), (1, .int x1), (2, .int x2), (4, .int x4), (5, .int x5)]) rfl (by decide) (by decide +kernel) ?_
        refine q_iload C (i := 5) 5 rfl (by decide +kernel) ?_
        refine q_istore C Rm.1 (i := 4) (lv' := [(4, .int x5), (3, .int ((x3 + (1 : Int32)))), (0, .ref x0), (1, .int x1), (2, .int x2), (5, .int x5)]) rfl (by decide) (by decide +kernel) ?_
        refine q_loc [2, 3, 4, 1, 0, 5] rfl ?_
        exact v_X8_possibleWinds_62 C Rm K ih _ _ _ _ _ _ _ hm
def m_X8_possibleWinds (h : q_H) (a0 : Nat) (a1 : Int32) (a2 : Int32) : Option (Int32 × q_H) :=
  (q_gn h a0 8 4).bind fun v1 =>
  (q_gn h a0 8 0).bind fun v2 =>
  (q_gn h v2 0 0).bind fun v3 =>
  (q_ca 4 h v1 (m_X4_copyFrom h v1 v3)).bind fun h5 =>
  m_X8_possibleWinds_24 q_fu h5 a0 a1 a2 ((0 : Int32)) ((-2 : Int32)) ((60 : Int32))
set_option maxRecDepth 20000 in
set_option maxHeartbeats 1000000 in
theorem c_X8_possibleWinds (l : Launch) (base : Nat) (D : va_G) (tc : Nat → ClassId) (sz : Nat) (h : q_H) (a0 : Nat) (a1 : Int32) (a2 : Int32) {r : Int32} {h' : q_H} (hm : m_X8_possibleWinds h a0 a1 a2 = some (r, h')) : q_M l yX8_possibleWinds cX8_possibleWinds 6 (some .int) 6 155 0 0 base D tc [.ref a0, .int a1, .int a2] sz h (some (.int r)) sz h' := by
  refine q_starti (by decide) (Nat.le_of_ble_eq_true rfl) (fun Γ B K => ?_)
  obtain ⟨C, Rm, -⟩ := B
  have C : q_C Γ cX8_possibleWinds RX8 := C
  show q_V Γ sz 0 0 h [(0, .ref a0), (1, .int a1), (2, .int a2)] [] 0
  unfold m_X8_possibleWinds at hm
  refine q_iconst C (n := 0) (v := 0) (by decide) (by decide +kernel) ?_
  refine q_istore_n C Rm.1 (k4 := 3) (i := 3) rfl (lv' := [(3, .int ((0 : Int32))), (0, .ref a0), (1, .int a1), (2, .int a2)]) rfl (by decide) (by decide +kernel) ?_
  refine q_bipush C (n := (-2)) (v := (-2)) (by decide) (by decide +kernel) ?_
  refine q_istore C Rm.1 (i := 4) (lv' := [(4, .int ((-2 : Int32))), (3, .int ((0 : Int32))), (0, .ref a0), (1, .int a1), (2, .int a2)]) rfl (by decide) (by decide +kernel) ?_
  refine q_aload_n C (k4 := 0) 2 rfl (by decide +kernel) ?_
  refine q_getn C fl_8_33 hm (by decide +kernel) (fun v1 hm => ?_)
  refine q_aload_n C (k4 := 0) 2 rfl (by decide +kernel) ?_
  refine q_getn C fl_8_9 hm (by decide +kernel) (fun v2 hm => ?_)
  refine q_getn C fl_8_63 hm (by decide +kernel) (fun v3 hm => ?_)
  refine q_vvS C Rm (As := [.ref v3]) (rest := []) Y_X4_copyFrom Yv_X4_copyFrom ml_X8_142 (by decide) (by decide) hm (fun h5 e9 => c_X4_copyFrom _ _ _ _ _ _ _ _ e9) rfl rfl (Nat.le_of_ble_eq_true rfl) (by decide +kernel) (fun h5 hm => ?_)
  refine q_bipush C (n := 60) (v := 60) (by decide) (by decide +kernel) ?_
  refine q_istore C Rm.1 (i := 5) (lv' := [(5, .int ((60 : Int32))), (4, .int ((-2 : Int32))), (3, .int ((0 : Int32))), (0, .ref a0), (1, .int a1), (2, .int a2)]) rfl (by decide) (by decide +kernel) ?_
  refine q_loc [3, 4, 5, 2, 1, 0] rfl ?_
  exact v_X8_possibleWinds_24 C Rm K _ _ _ _ _ _ _ _ hm
def m_X8_isSteady_9  : Nat → q_H → Nat → Int32 → Int32 → Int32 → Int32 → Option Int32
  | 0, _, _, _, _, _, _ => none
  | n + 1, h0, x0, x1, x2, x3, x4 =>
    if (4 : Int32) ≤ x4 then
      some ((1 : Int32))
    else
      (q_gn h0 x0 8 7).bind fun v1 =>
      (q_ai h0 v1 1 (((x4 * (4 : Int32)) + x2))).bind fun v2 =>
      (q_gn h0 x0 8 7).bind fun v3 =>
      (q_ai h0 v3 1 x3).bind fun v4 =>
      if v2 ≤ v4 then
        (q_gn h0 x0 8 8).bind fun v5 =>
        (q_ai h0 v5 1 (((x1 * (4 : Int32)) + x4))).bind fun v6 =>
        (q_gn h0 x0 8 8).bind fun v7 =>
        (q_ai h0 v7 1 x3).bind fun v8 =>
        if v6 ≤ v8 then
          m_X8_isSteady_9 n h0 x0 x1 x2 x3 ((x4 + (1 : Int32)))
        else
          some ((0 : Int32))
      else
        some ((0 : Int32))
set_option maxRecDepth 20000 in
set_option maxHeartbeats 1000000 in
theorem v_X8_isSteady_9 {Γ : q_G} {sz : Nat} {h0 : q_H} {r : Int32} (C : q_C Γ cX8_isSteady RX8) (Rm : q_Rm Γ 5 0 0 0 0)  (K : narrow .boolean (.int r) = .int r → q_K Γ cX8_isSteady .ireturn sz h0 0 0 [.int r])  : ∀ (n : Nat) (x0 : Nat) (x1 : Int32) (x2 : Int32) (x3 : Int32) (x4 : Int32), m_X8_isSteady_9 n h0 x0 x1 x2 x3 x4 = some r → q_V Γ sz 0 0 h0 [(0, .ref x0), (1, .int x1), (2, .int x2), (3, .int x3), (4, .int x4)] [] 9 := by
  intro n
  induction n with
  | zero => intro x0 x1 x2 x3 x4 hm; cases hm
  | succ n ih =>
    intro x0 x1 x2 x3 x4 hm
    unfold m_X8_isSteady_9 at hm
    refine q_iload C (i := 4) 4 rfl (by decide +kernel) ?_
    refine q_iconst C (n := 4) (v := 4) (by decide) (by decide +kernel) ?_
    refine q_icmp_ge C (off := 53) 65 hm (by decide +kernel) (by decide) (fun _ hm => ?_) (fun _ hm => ?_)
    · refine q_iconst C (n := 1) (v := 1) (by decide) (by decide +kernel) ?_
      exact q_riP hm K q_z1 (by decide +kernel)
    · refine q_aload_n C (k4 := 0) 0 rfl (by decide +kernel) ?_
      refine q_getn C fl_8_46 hm (by decide +kernel) (fun v1 hm => ?_)
      refine q_iload C (i := 4) 4 rfl (by decide +kernel) ?_
      refine q_iconst C (n := 4) (v := 4) (by decide) (by decide +kernel) ?_
      refine q_imul C (by decide +kernel) ?_
      refine q_iload_n C (k4 := 2) 2 rfl (by decide +kernel) ?_
      refine q_iadd C (by decide +kernel) ?_
      refine q_ir C hm (by decide +kernel) (fun v2 hm => ?_)
      refine q_aload_n C (k4 := 0) 0 rfl (by decide +kernel) ?_
      refine q_getn C fl_8_46 hm (by decide +kernel) (fun v3 hm => ?_)
      refine q_iload_n C (k4 := 3) 3 rfl (by decide +kernel) ?_
      refine q_ir C hm (by decide +kernel) (fun v4 hm => ?_)
      refine q_icmp_le C (off := 5) 37 hm (by decide +kernel) (by decide) (fun _ hm => ?_) (fun _ hm => ?_)
      · refine q_aload_n C (k4 := 0) 0 rfl (by decide +kernel) ?_
        refine q_getn C fl_8_50 hm (by decide +kernel) (fun v5 hm => ?_)
        refine q_iload_n C (k4 := 1) 1 rfl (by decide +kernel) ?_
        refine q_iconst C (n := 4) (v := 4) (by decide) (by decide +kernel) ?_
        refine q_imul C (by decide +kernel) ?_
        refine q_iload C (i := 4) 4 rfl (by decide +kernel) ?_
        refine q_iadd C (by decide +kernel) ?_
        refine q_ir C hm (by decide +kernel) (fun v6 hm => ?_)
        refine q_aload_n C (k4 := 0) 0 rfl (by decide +kernel) ?_
        refine q_getn C fl_8_50 hm (by decide +kernel) (fun v7 hm => ?_)
        refine q_iload_n C (k4 := 3) 3 rfl (by decide +kernel) ?_
        refine q_ir C hm (by decide +kernel) (fun v8 hm => ?_)
        refine q_icmp_le C (off := 5) 59 hm (by decide +kernel) (by decide) (fun _ hm => ?_) (fun _ hm => ?_)
        · refine q_iinc C Rm.1 (i := 4) (n := 1) (v := (x4 + (1 : Int32))) 4 rfl (q_inc _ (by decide)) (lv' := [(4, .int ((x4 + (1 : Int32)))), (0, .ref x0), (1, .int x1), (2, .int x2), (3, .int x3)]) rfl (by decide) (by decide +kernel) ?_
          refine q_goto C (off := -53) 9 (by decide +kernel) (by decide) ?_
          refine q_loc [1, 2, 3, 4, 0] rfl ?_
          exact ih _ _ _ _ _ hm
        · refine q_iconst C (n := 0) (v := 0) (by decide) (by decide +kernel) ?_
          exact q_riP hm K q_z0 (by decide +kernel)
      · refine q_iconst C (n := 0) (v := 0) (by decide) (by decide +kernel) ?_
        exact q_riP hm K q_z0 (by decide +kernel)
def m_X8_isSteady (h0 : q_H) (a0 : Nat) (a1 : Int32) (a2 : Int32) : Option Int32 :=
  m_X8_isSteady_9 q_fu h0 a0 a1 a2 (((a1 * (4 : Int32)) + a2)) ((0 : Int32))
set_option maxRecDepth 20000 in
set_option maxHeartbeats 1000000 in
theorem c_X8_isSteady (l : Launch) (base : Nat) (D : va_G) (tc : Nat → ClassId) (sz : Nat) (h0 : q_H) (a0 : Nat) (a1 : Int32) (a2 : Int32) {r : Int32} (hm : m_X8_isSteady h0 a0 a1 a2 = some r) : q_M l yX8_isSteady cX8_isSteady 5 (some .boolean) 0 0 0 0 base D tc [.ref a0, .int a1, .int a2] sz h0 (some (.int r)) sz h0 := by
  refine q_starti (by decide) (Nat.le_of_ble_eq_true rfl) (fun Γ B K => ?_)
  obtain ⟨C, Rm, -⟩ := B
  have C : q_C Γ cX8_isSteady RX8 := C
  show q_V Γ sz 0 0 h0 [(0, .ref a0), (1, .int a1), (2, .int a2)] [] 0
  unfold m_X8_isSteady at hm
  refine q_iload_n C (k4 := 1) 1 rfl (by decide +kernel) ?_
  refine q_iconst C (n := 4) (v := 4) (by decide) (by decide +kernel) ?_
  refine q_imul C (by decide +kernel) ?_
  refine q_iload_n C (k4 := 2) 2 rfl (by decide +kernel) ?_
  refine q_iadd C (by decide +kernel) ?_
  refine q_istore_n C Rm.1 (k4 := 3) (i := 3) rfl (lv' := [(3, .int (((a1 * (4 : Int32)) + a2))), (0, .ref a0), (1, .int a1), (2, .int a2)]) rfl (by decide) (by decide +kernel) ?_
  refine q_iconst C (n := 0) (v := 0) (by decide) (by decide +kernel) ?_
  refine q_istore C Rm.1 (i := 4) (lv' := [(4, .int ((0 : Int32))), (3, .int (((a1 * (4 : Int32)) + a2))), (0, .ref a0), (1, .int a1), (2, .int a2)]) rfl (by decide) (by decide +kernel) ?_
  refine q_loc [2, 3, 4, 1, 0] rfl ?_
  exact v_X8_isSteady_9 C Rm K _ _ _ _ _ _ hm
def m_X8_steadyEfforts_159 (k132 : q_H → Nat → Int32 → Int32 → Int32 → Int32 → Option (Int32 × q_H)) (h : q_H) (x0 : Nat) (x4 : Int32) (x5 : Int32) (x6 : Int32) (x7 : Int32) : Option (Int32 × q_H) :=
  k132 h x0 x4 x5 x6 ((x7 + (-1 : Int32)))
set_option maxRecDepth 20000 in
set_option maxHeartbeats 1000000 in
theorem v_X8_steadyEfforts_159 {Γ : q_G} {sz : Nat} {r : Int32} {h' : q_H} (C : q_C Γ cX8_steadyEfforts RX8) (Rm : q_Rm Γ 8 5 131 0 0) {k132 : q_H → Nat → Int32 → Int32 → Int32 → Int32 → Option (Int32 × q_H)} (K : narrow .int (.int r) = .int r → q_K Γ cX8_steadyEfforts .ireturn sz h' 0 0 [.int r]) (hk132 : ∀ (h : q_H) (x0 : Nat) (x4 : Int32) (x5 : Int32) (x6 : Int32) (x7 : Int32), k132 h x0 x4 x5 x6 x7 = some (r, h') → q_V Γ sz 0 0 h [(0, .ref x0), (4, .int x4), (5, .int x5), (6, .int x6), (7, .int x7)] [] 132) : ∀ (h : q_H) (x0 : Nat) (x4 : Int32) (x5 : Int32) (x6 : Int32) (x7 : Int32), m_X8_steadyEfforts_159 k132 h x0 x4 x5 x6 x7 = some (r, h') → q_V Γ sz 0 0 h [(0, .ref x0), (4, .int x4), (5, .int x5), (6, .int x6), (7, .int x7)] [] 159 := by
  intro h x0 x4 x5 x6 x7 hm
  unfold m_X8_steadyEfforts_159 at hm
  refine q_iinc C Rm.1 (i := 7) (n := (-1)) (v := (x7 + (-1 : Int32))) 4 rfl (q_inc _ (by decide)) (lv' := [(7, .int ((x7 + (-1 : Int32)))), (0, .ref x0), (4, .int x4), (5, .int x5), (6, .int x6)]) rfl (by decide) (by decide +kernel) ?_
  refine q_goto C (off := -30) 132 (by decide +kernel) (by decide) ?_
  refine q_loc [1, 2, 3, 4, 0] rfl ?_
  exact hk132 _ _ _ _ _ _ hm
def m_X8_steadyEfforts_132  : Nat → q_H → Nat → Int32 → Int32 → Int32 → Int32 → Option (Int32 × q_H)
  | 0, _, _, _, _, _, _ => none
  | n + 1, h, x0, x4, x5, x6, x7 =>
    if x7 < 0 then
      if x4 = 0 then
        some (x5, h)
      else
        if x5 = 0 then
          some ((-2 : Int32), h)
        else
          if x4 = (1 : Int32) then
            some ((x6 / (4 : Int32)), h)
          else
            some ((q_rmi x6 ((4 : Int32))), h)
    else
      (q_ca 8 h x0 (m_X8_isSteady h x0 ((x7 / (4 : Int32))) ((q_rmi x7 ((4 : Int32)))))).bind fun r35 =>
      if r35 = 0 then
        m_X8_steadyEfforts_159 (m_X8_steadyEfforts_132 n) h x0 x4 x5 x6 x7
      else
        m_X8_steadyEfforts_159 (m_X8_steadyEfforts_132 n) h x0 x4 ((x5 + (1 : Int32))) x7 x7
set_option maxRecDepth 20000 in
set_option maxHeartbeats 1000000 in
theorem v_X8_steadyEfforts_132 {Γ : q_G} {sz : Nat} {r : Int32} {h' : q_H} (C : q_C Γ cX8_steadyEfforts RX8) (Rm : q_Rm Γ 8 5 131 0 0)  (K : narrow .int (.int r) = .int r → q_K Γ cX8_steadyEfforts .ireturn sz h' 0 0 [.int r])  : ∀ (n : Nat) (h : q_H) (x0 : Nat) (x4 : Int32) (x5 : Int32) (x6 : Int32) (x7 : Int32), m_X8_steadyEfforts_132 n h x0 x4 x5 x6 x7 = some (r, h') → q_V Γ sz 0 0 h [(0, .ref x0), (4, .int x4), (5, .int x5), (6, .int x6), (7, .int x7)] [] 132 := by
  intro n
  induction n with
  | zero => intro h x0 x4 x5 x6 x7 hm; cases hm
  | succ n ih =>
    intro h x0 x4 x5 x6 x7 hm
    unfold m_X8_steadyEfforts_132 at hm
    refine q_iload C (i := 7) 4 rfl (by decide +kernel) ?_
    refine q_if_lt C (off := 31) 165 hm (by decide +kernel) (by decide) (fun _ hm => ?_) (fun _ hm => ?_)
    · refine q_iload C (i := 4) 1 rfl (by decide +kernel) ?_
      refine q_if_ne C (off := 6) 173 hm (by decide +kernel) (by decide) (fun _ hm => ?_) (fun _ hm => ?_)
      · refine q_iload C (i := 5) 2 rfl (by decide +kernel) ?_
        refine q_if_ne C (off := 8) 183 hm (by decide +kernel) (by decide) (fun _ hm => ?_) (fun _ hm => ?_)
        · refine q_iload C (i := 4) 1 rfl (by decide +kernel) ?_
          refine q_iconst C (n := 1) (v := 1) (by decide) (by decide +kernel) ?_
          refine q_icmp_ne C (off := 10) 196 hm (by decide +kernel) (by decide) (fun _ hm => ?_) (fun _ hm => ?_)
          · refine q_iload C (i := 6) 3 rfl (by decide +kernel) ?_
            refine q_iconst C (n := 4) (v := 4) (by decide) (by decide +kernel) ?_
            refine q_irem C (by decide) (by decide +kernel) ?_
            exact q_riS hm K rfl (by decide +kernel)
          · refine q_iload C (i := 6) 3 rfl (by decide +kernel) ?_
            refine q_iconst C (n := 4) (v := 4) (by decide) (by decide +kernel) ?_
            refine q_idiv C (by decide) (by decide +kernel) ?_
            refine q_goto C (off := 7) 200 (by decide +kernel) (by decide) ?_
            exact q_riS hm K rfl (by decide +kernel)
        · refine q_bipush C (n := (-2)) (v := (-2)) (by decide) (by decide +kernel) ?_
          refine q_goto C (off := 20) 200 (by decide +kernel) (by decide) ?_
          exact q_riS hm K rfl (by decide +kernel)
      · refine q_iload C (i := 5) 2 rfl (by decide +kernel) ?_
        exact q_riS hm K rfl (by decide +kernel)
    · refine q_aload_n C (k4 := 0) 0 rfl (by decide +kernel) ?_
      refine q_iload C (i := 7) 4 rfl (by decide +kernel) ?_
      refine q_iconst C (n := 4) (v := 4) (by decide) (by decide +kernel) ?_
      refine q_idiv C (by decide) (by decide +kernel) ?_
      refine q_iload C (i := 7) 4 rfl (by decide +kernel) ?_
      refine q_iconst C (n := 4) (v := 4) (by decide) (by decide +kernel) ?_
      refine q_irem C (by decide) (by decide +kernel) ?_
      refine q_viP C Rm (As := [.int ((x7 / (4 : Int32))), .int ((q_rmi x7 ((4 : Int32))))]) (rest := []) Y_X8_isSteady Yv_X8_isSteady ml_X8_164 (by decide) (by decide) hm (fun r9 e9 => c_X8_isSteady _ _ _ _ _ _ _ _ _ e9) rfl rfl (Nat.le_of_ble_eq_true rfl) (by decide +kernel) (fun r35 hm z36 => ?_)
      refine q_if_eq C (off := 10) 159 hm (by decide +kernel) (by decide) (fun _ hm => ?_) (fun _ hm => ?_)
      · exact v_X8_steadyEfforts_159 C Rm K ih _ _ _ _ _ _ hm
      · refine q_iinc C Rm.1 (i := 5) (n := 1) (v := (x5 + (1 : Int32))) 2 rfl (q_inc _ (by decide)) (lv' := [(5, .int ((x5 + (1 : Int32)))), (0, .ref x0), (4, .int x4), (6, .int x6), (7, .int x7)]) rfl (by decide) (by decide +kernel) ?_
        refine q_iload C (i := 7) 4 rfl (by decide +kernel) ?_
        refine q_istore C Rm.1 (i := 6) (lv' := [(6, .int x7), (5, .int ((x5 + (1 : Int32)))), (0, .ref x0), (4, .int x4), (7, .int x7)]) rfl (by decide) (by decide +kernel) ?_
        refine q_loc [2, 3, 1, 0, 4] rfl ?_
        exact v_X8_steadyEfforts_159 C Rm K ih _ _ _ _ _ _ hm
def m_X8_steadyEfforts_3  : Nat → q_H → Nat → Int32 → Int32 → Int32 → Int32 → Int32 → Option (Int32 × q_H)
  | 0, _, _, _, _, _, _, _ => none
  | n + 1, h, x0, x1, x2, x3, x4, x5 =>
    if (16 : Int32) ≤ x5 then
      m_X8_steadyEfforts_132 q_fu h x0 x4 ((0 : Int32)) ((-1 : Int32)) ((15 : Int32))
    else
      (q_ca 8 h x0 (m_X8_startFromNow h x0)).bind fun h2 =>
      (q_gn h2 x0 8 2).bind fun v3 =>
      (q_ca 1 h2 v3 (m_X1_fix h2 v3 x1 ((x5 / (4 : Int32))))).bind fun h5 =>
      (q_gn h5 x0 8 2).bind fun v6 =>
      (q_ca 1 h5 v6 (m_X1_fix h5 v6 x2 ((q_rmi x5 ((4 : Int32)))))).bind fun h8 =>
      (q_gn h8 x0 8 2).bind fun v9 =>
      (q_gn h8 x0 8 3).bind fun v10 =>
      (q_ca 1 h8 v9 (m_X1_heaveOn h8 v9 v10 x3)).bind fun h12 =>
      (q_gn h12 x0 8 7).bind fun v13 =>
      (q_gn h12 x0 8 3).bind fun v14 =>
      (q_gn h12 x0 8 3).bind fun v15 =>
      (q_gn h12 v15 10 3).bind fun v16 =>
      (q_ai h12 v16 1 x1).bind fun v17 =>
      (q_ca 10 h12 v14 (m_X10_towards h12 v14 v17)).bind fun r18 =>
      (q_gn h12 x0 8 3).bind fun v20 =>
      (q_gn h12 v20 10 5).bind fun v21 =>
      (q_ai h12 v21 1 x1).bind fun v22 =>
      (q_si h12 v13 1 x5 ((r18 + v22))).bind fun h23 =>
      (q_gn h23 x0 8 8).bind fun v24 =>
      (q_gn h23 x0 8 3).bind fun v25 =>
      (q_gn h23 x0 8 3).bind fun v26 =>
      (q_gn h23 v26 10 3).bind fun v27 =>
      (q_ai h23 v27 1 x2).bind fun v28 =>
      (q_ca 10 h23 v25 (m_X10_towards h23 v25 v28)).bind fun r29 =>
      (q_gn h23 x0 8 3).bind fun v31 =>
      (q_gn h23 v31 10 5).bind fun v32 =>
      (q_ai h23 v32 1 x2).bind fun v33 =>
      (q_si h23 v24 1 x5 ((r29 + v33))).bind fun h34 =>
      m_X8_steadyEfforts_3 n h34 x0 x1 x2 x3 x4 ((x5 + (1 : Int32)))
set_option maxRecDepth 20000 in
set_option maxHeartbeats 1000000 in
theorem v_X8_steadyEfforts_3 {Γ : q_G} {sz : Nat} {r : Int32} {h' : q_H} (C : q_C Γ cX8_steadyEfforts RX8) (Rm : q_Rm Γ 8 5 131 0 0)  (K : narrow .int (.int r) = .int r → q_K Γ cX8_steadyEfforts .ireturn sz h' 0 0 [.int r])  : ∀ (n : Nat) (h : q_H) (x0 : Nat) (x1 : Int32) (x2 : Int32) (x3 : Int32) (x4 : Int32) (x5 : Int32), m_X8_steadyEfforts_3 n h x0 x1 x2 x3 x4 x5 = some (r, h') → q_V Γ sz 0 0 h [(0, .ref x0), (1, .int x1), (2, .int x2), (3, .int x3), (4, .int x4), (5, .int x5)] [] 3 := by
  intro n
  induction n with
  | zero => intro h x0 x1 x2 x3 x4 x5 hm; cases hm
  | succ n ih =>
    intro h x0 x1 x2 x3 x4 x5 hm
    unfold m_X8_steadyEfforts_3 at hm
    refine q_iload C (i := 5) 5 rfl (by decide +kernel) ?_
    refine q_bipush C (n := 16) (v := 16) (by decide) (by decide +kernel) ?_
    refine q_icmp_ge C (off := 115) 122 hm (by decide +kernel) (by decide) (fun _ hm => ?_) (fun _ hm => ?_)
    · refine q_iconst C (n := 0) (v := 0) (by decide) (by decide +kernel) ?_
      refine q_istore C Rm.1 (i := 5) (lv' := [(5, .int ((0 : Int32))), (0, .ref x0), (1, .int x1), (2, .int x2), (3, .int x3), (4, .int x4)]) rfl (by decide) (by decide +kernel) ?_
      refine q_iconst C (n := (-1)) (v := (-1)) (by decide) (by decide +kernel) ?_
      refine q_istore C Rm.1 (i := 6) (lv' := [(6, .int ((-1 : Int32))), (5, .int ((0 : Int32))), (0, .ref x0), (1, .int x1), (2, .int x2), (3, .int x3), (4, .int x4)]) rfl (by decide) (by decide +kernel) ?_
      refine q_bipush C (n := 15) (v := 15) (by decide) (by decide +kernel) ?_
      refine q_istore C Rm.1 (i := 7) (lv' := [(7, .int ((15 : Int32))), (6, .int ((-1 : Int32))), (5, .int ((0 : Int32))), (0, .ref x0), (1, .int x1), (2, .int x2), (3, .int x3), (4, .int x4)]) rfl (by decide) (by decide +kernel) ?_
      refine q_loc [3, 7, 2, 1, 0] rfl ?_
      exact v_X8_steadyEfforts_132 C Rm K _ _ _ _ _ _ _ hm
    · refine q_aload_n C (k4 := 0) 0 rfl (by decide +kernel) ?_
      refine q_vvS C Rm (As := []) (rest := []) Y_X8_startFromNow Yv_X8_startFromNow ml_X8_83 (by decide) (by decide) hm (fun h2 e9 => c_X8_startFromNow _ _ _ _ _ _ _ e9) rfl rfl (Nat.le_of_ble_eq_true rfl) (by decide +kernel) (fun h2 hm => ?_)
      refine q_aload_n C (k4 := 0) 0 rfl (by decide +kernel) ?_
      refine q_getn C fl_8_19 hm (by decide +kernel) (fun v3 hm => ?_)
      refine q_iload_n C (k4 := 1) 1 rfl (by decide +kernel) ?_
      refine q_iload C (i := 5) 5 rfl (by decide +kernel) ?_
      refine q_iconst C (n := 4) (v := 4) (by decide) (by decide +kernel) ?_
      refine q_idiv C (by decide) (by decide +kernel) ?_
      refine q_vvS C Rm (As := [.int x1, .int ((x5 / (4 : Int32)))]) (rest := []) Y_X1_fix Yv_X1_fix ml_X8_116 (by decide) (by decide) hm (fun h5 e9 => c_X1_fix _ _ _ _ _ _ _ _ _ e9) rfl rfl (Nat.le_of_ble_eq_true rfl) (by decide +kernel) (fun h5 hm => ?_)
      refine q_aload_n C (k4 := 0) 0 rfl (by decide +kernel) ?_
      refine q_getn C fl_8_19 hm (by decide +kernel) (fun v6 hm => ?_)
      refine q_iload_n C (k4 := 2) 2 rfl (by decide +kernel) ?_
      refine q_iload C (i := 5) 5 rfl (by decide +kernel) ?_
      refine q_iconst C (n := 4) (v := 4) (by decide) (by decide +kernel) ?_
      refine q_irem C (by decide) (by decide +kernel) ?_
      refine q_vvS C Rm (As := [.int x2, .int ((q_rmi x5 ((4 : Int32))))]) (rest := []) Y_X1_fix Yv_X1_fix ml_X8_116 (by decide) (by decide) hm (fun h8 e9 => c_X1_fix _ _ _ _ _ _ _ _ _ e9) rfl rfl (Nat.le_of_ble_eq_true rfl) (by decide +kernel) (fun h8 hm => ?_)
      refine q_aload_n C (k4 := 0) 0 rfl (by decide +kernel) ?_
      refine q_getn C fl_8_19 hm (by decide +kernel) (fun v9 hm => ?_)
      refine q_aload_n C (k4 := 0) 0 rfl (by decide +kernel) ?_
      refine q_getn C fl_8_26 hm (by decide +kernel) (fun v10 hm => ?_)
      refine q_iload_n C (k4 := 3) 3 rfl (by decide +kernel) ?_
      refine q_vvS C Rm (As := [.ref v10, .int x3]) (rest := []) Y_X1_heaveOn Yv_X1_heaveOn ml_X8_86 (by decide) (by decide) hm (fun h12 e9 => c_X1_heaveOn _ _ _ _ _ _ _ _ _ e9) rfl rfl (Nat.le_of_ble_eq_true rfl) (by decide +kernel) (fun h12 hm => ?_)
      refine q_aload_n C (k4 := 0) 0 rfl (by decide +kernel) ?_
      refine q_getn C fl_8_46 hm (by decide +kernel) (fun v13 hm => ?_)
      refine q_iload C (i := 5) 5 rfl (by decide +kernel) ?_
      refine q_aload_n C (k4 := 0) 0 rfl (by decide +kernel) ?_
      refine q_getn C fl_8_26 hm (by decide +kernel) (fun v14 hm => ?_)
      refine q_aload_n C (k4 := 0) 0 rfl (by decide +kernel) ?_
      refine q_getn C fl_8_26 hm (by decide +kernel) (fun v15 hm => ?_)
      refine q_getn C fl_8_120 hm (by decide +kernel) (fun v16 hm => ?_)
      refine q_iload_n C (k4 := 1) 1 rfl (by decide +kernel) ?_
      refine q_ir C hm (by decide +kernel) (fun v17 hm => ?_)
      refine q_viP C Rm (As := [.int v17]) (rest := [.int x5, .ref v13]) Y_X10_towards Yv_X10_towards ml_X8_123 (by decide) (by decide) hm (fun r9 e9 => c_X10_towards _ _ _ _ _ _ _ _ e9) rfl rfl (Nat.le_of_ble_eq_true rfl) (by decide +kernel) (fun r18 hm z19 => ?_)
      refine q_aload_n C (k4 := 0) 0 rfl (by decide +kernel) ?_
      refine q_getn C fl_8_26 hm (by decide +kernel) (fun v20 hm => ?_)
      refine q_getn C fl_8_93 hm (by decide +kernel) (fun v21 hm => ?_)
      refine q_iload_n C (k4 := 1) 1 rfl (by decide +kernel) ?_
      refine q_ir C hm (by decide +kernel) (fun v22 hm => ?_)
      refine q_iadd C (by decide +kernel) ?_
      refine q_iw C hm (by decide +kernel) (fun h23 hm => ?_)
      refine q_aload_n C (k4 := 0) 0 rfl (by decide +kernel) ?_
      refine q_getn C fl_8_50 hm (by decide +kernel) (fun v24 hm => ?_)
      refine q_iload C (i := 5) 5 rfl (by decide +kernel) ?_
      refine q_aload_n C (k4 := 0) 0 rfl (by decide +kernel) ?_
      refine q_getn C fl_8_26 hm (by decide +kernel) (fun v25 hm => ?_)
      refine q_aload_n C (k4 := 0) 0 rfl (by decide +kernel) ?_
      refine q_getn C fl_8_26 hm (by decide +kernel) (fun v26 hm => ?_)
      refine q_getn C fl_8_120 hm (by decide +kernel) (fun v27 hm => ?_)
      refine q_iload_n C (k4 := 2) 2 rfl (by decide +kernel) ?_
      refine q_ir C hm (by decide +kernel) (fun v28 hm => ?_)
      refine q_viP C Rm (As := [.int v28]) (rest := [.int x5, .ref v24]) Y_X10_towards Yv_X10_towards ml_X8_123 (by decide) (by decide) hm (fun r9 e9 => c_X10_towards _ _ _ _ _ _ _ _ e9) rfl rfl (Nat.le_of_ble_eq_true rfl) (by decide +kernel) (fun r29 hm z30 => ?_)
      refine q_aload_n C (k4 := 0) 0 rfl (by decide +kernel) ?_
      refine q_getn C fl_8_26 hm (by decide +kernel) (fun v31 hm => ?_)
      refine q_getn C fl_8_93 hm (by decide +kernel) (fun v32 hm => ?_)
      refine q_iload_n C (k4 := 2) 2 rfl (by decide +kernel) ?_
      refine q_ir C hm (by decide +kernel) (fun v33 hm => ?_)
      refine q_iadd C (by decide +kernel) ?_
      refine q_iw C hm (by decide +kernel) (fun h34 hm => ?_)
      refine q_iinc C Rm.1 (i := 5) (n := 1) (v := (x5 + (1 : Int32))) 5 rfl (q_inc _ (by decide)) (lv' := [(5, .int ((x5 + (1 : Int32)))), (0, .ref x0), (1, .int x1), (2, .int x2), (3, .int x3), (4, .int x4)]) rfl (by decide) (by decide +kernel) ?_
      refine q_goto C (off := -116) 3 (by decide +kernel) (by decide) ?_
      refine q_loc [1, 2, 3, 4, 5, 0] rfl ?_
      exact ih _ _ _ _ _ _ _ hm
def m_X8_steadyEfforts (h : q_H) (a0 : Nat) (a1 : Int32) (a2 : Int32) (a3 : Int32) (a4 : Int32) : Option (Int32 × q_H) :=
  m_X8_steadyEfforts_3 q_fu h a0 a1 a2 a3 a4 ((0 : Int32))
set_option maxRecDepth 20000 in
set_option maxHeartbeats 1000000 in
theorem c_X8_steadyEfforts (l : Launch) (base : Nat) (D : va_G) (tc : Nat → ClassId) (sz : Nat) (h : q_H) (a0 : Nat) (a1 : Int32) (a2 : Int32) (a3 : Int32) (a4 : Int32) {r : Int32} {h' : q_H} (hm : m_X8_steadyEfforts h a0 a1 a2 a3 a4 = some (r, h')) : q_M l yX8_steadyEfforts cX8_steadyEfforts 8 (some .int) 5 131 0 0 base D tc [.ref a0, .int a1, .int a2, .int a3, .int a4] sz h (some (.int r)) sz h' := by
  refine q_starti (by decide) (Nat.le_of_ble_eq_true rfl) (fun Γ B K => ?_)
  obtain ⟨C, Rm, -⟩ := B
  have C : q_C Γ cX8_steadyEfforts RX8 := C
  show q_V Γ sz 0 0 h [(0, .ref a0), (1, .int a1), (2, .int a2), (3, .int a3), (4, .int a4)] [] 0
  unfold m_X8_steadyEfforts at hm
  refine q_iconst C (n := 0) (v := 0) (by decide) (by decide +kernel) ?_
  refine q_istore C Rm.1 (i := 5) (lv' := [(5, .int ((0 : Int32))), (0, .ref a0), (1, .int a1), (2, .int a2), (3, .int a3), (4, .int a4)]) rfl (by decide) (by decide +kernel) ?_
  refine q_loc [1, 2, 3, 4, 5, 0] rfl ?_
  exact v_X8_steadyEfforts_3 C Rm K _ _ _ _ _ _ _ _ hm
def m_X10_likeness_21  : Nat → q_H → Nat → Int32 → Int64 → Int32 → Option Int64
  | 0, _, _, _, _, _ => none
  | n + 1, h0, x0, x1, x2, x4 =>
    if x1 ≤ x4 then
      some x2
    else
      (q_gn h0 x0 10 5).bind fun v3 =>
      (q_ai h0 v3 1 x4).bind fun v4 =>
      m_X10_likeness_21 n h0 x0 x1 (((x2 <<< (((6 : Int32)).toInt64 &&& 63)) ||| v4.toInt64)) ((x4 + (1 : Int32)))
set_option maxRecDepth 20000 in
set_option maxHeartbeats 1000000 in
theorem v_X10_likeness_21 {Γ : q_G} {sz : Nat} {h0 : q_H} {r : Int64} (C : q_C Γ cX10_likeness RX10) (Rm : q_Rm Γ 5 0 0 0 0)  (K : q_K Γ cX10_likeness .lreturn sz h0 0 0 [.long r])  : ∀ (n : Nat) (x0 : Nat) (x1 : Int32) (x2 : Int64) (x4 : Int32), m_X10_likeness_21 n h0 x0 x1 x2 x4 = some r → q_V Γ sz 0 0 h0 [(0, .ref x0), (1, .int x1), (2, .long x2), (4, .int x4)] [] 21 := by
  intro n
  induction n with
  | zero => intro x0 x1 x2 x4 hm; cases hm
  | succ n ih =>
    intro x0 x1 x2 x4 hm
    unfold m_X10_likeness_21 at hm
    refine q_iload C (i := 4) 3 rfl (by decide +kernel) ?_
    refine q_iload_n C (k4 := 1) 1 rfl (by decide +kernel) ?_
    refine q_icmp_ge C (off := 23) 47 hm (by decide +kernel) (by decide) (fun _ hm => ?_) (fun _ hm => ?_)
    · refine q_lload_n C (k4 := 2) 2 rfl (by decide +kernel) ?_
      exact q_rlP hm K (by decide +kernel)
    · refine q_lload_n C (k4 := 2) 2 rfl (by decide +kernel) ?_
      refine q_bipush C (n := 6) (v := 6) (by decide) (by decide +kernel) ?_
      refine q_lshl C (by decide +kernel) ?_
      refine q_aload_n C (k4 := 0) 0 rfl (by decide +kernel) ?_
      refine q_getn C fl_10_18 hm (by decide +kernel) (fun v3 hm => ?_)
      refine q_iload C (i := 4) 3 rfl (by decide +kernel) ?_
      refine q_ir C hm (by decide +kernel) (fun v4 hm => ?_)
      refine q_i2l C (by decide +kernel) ?_
      refine q_lor C (by decide +kernel) ?_
      refine q_lstore_n C Rm.1 (k4 := 2) (i := 2) rfl (lv' := [(2, .long (((x2 <<< (((6 : Int32)).toInt64 &&& 63)) ||| v4.toInt64))), (0, .ref x0), (1, .int x1), (4, .int x4)]) rfl (by decide) (by decide +kernel) ?_
      refine q_iinc C Rm.1 (i := 4) (n := 1) (v := (x4 + (1 : Int32))) 3 rfl (q_inc _ (by decide)) (lv' := [(4, .int ((x4 + (1 : Int32)))), (2, .long (((x2 <<< (((6 : Int32)).toInt64 &&& 63)) ||| v4.toInt64))), (0, .ref x0), (1, .int x1)]) rfl (by decide) (by decide +kernel) ?_
      refine q_goto C (off := -23) 21 (by decide +kernel) (by decide) ?_
      refine q_loc [2, 3, 1, 0] rfl ?_
      exact ih _ _ _ _ hm
def m_X10_likeness (h0 : q_H) (a0 : Nat) (a1 : Int32) : Option Int64 :=
  (q_gi h0 a0 10 0).bind fun v1 =>
  (q_gi h0 a0 10 2).bind fun v2 =>
  m_X10_likeness_21 q_fu h0 a0 a1 (((((v1 + (100 : Int32))).toInt64 <<< (((8 : Int32)).toInt64 &&& 63)) ||| v2.toInt64)) ((0 : Int32))
set_option maxRecDepth 20000 in
set_option maxHeartbeats 1000000 in
theorem c_X10_likeness (l : Launch) (base : Nat) (D : va_G) (tc : Nat → ClassId) (sz : Nat) (h0 : q_H) (a0 : Nat) (a1 : Int32) {r : Int64} (hm : m_X10_likeness h0 a0 a1 = some r) : q_M l yX10_likeness cX10_likeness 5 (some .long) 0 0 0 0 base D tc [.ref a0, .int a1] sz h0 (some (.long r)) sz h0 := by
  refine q_startl (by decide) (Nat.le_of_ble_eq_true rfl) (fun Γ B K => ?_)
  obtain ⟨C, Rm, -⟩ := B
  have C : q_C Γ cX10_likeness RX10 := C
  show q_V Γ sz 0 0 h0 [(0, .ref a0), (1, .int a1)] [] 0
  unfold m_X10_likeness at hm
  refine q_aload_n C (k4 := 0) 0 rfl (by decide +kernel) ?_
  refine q_geti C fl_10_30 hm (by decide +kernel) (fun v1 hm => ?_)
  refine q_bipush C (n := 100) (v := 100) (by decide) (by decide +kernel) ?_
  refine q_iadd C (by decide +kernel) ?_
  refine q_i2l C (by decide +kernel) ?_
  refine q_bipush C (n := 8) (v := 8) (by decide) (by decide +kernel) ?_
  refine q_lshl C (by decide +kernel) ?_
  refine q_aload_n C (k4 := 0) 0 rfl (by decide +kernel) ?_
  refine q_geti C fl_10_38 hm (by decide +kernel) (fun v2 hm => ?_)
  refine q_i2l C (by decide +kernel) ?_
  refine q_lor C (by decide +kernel) ?_
  refine q_lstore_n C Rm.1 (k4 := 2) (i := 2) rfl (lv' := [(2, .long (((((v1 + (100 : Int32))).toInt64 <<< (((8 : Int32)).toInt64 &&& 63)) ||| v2.toInt64))), (0, .ref a0), (1, .int a1)]) rfl (by decide) (by decide +kernel) ?_
  refine q_iconst C (n := 0) (v := 0) (by decide) (by decide +kernel) ?_
  refine q_istore C Rm.1 (i := 4) (lv' := [(4, .int ((0 : Int32))), (2, .long (((((v1 + (100 : Int32))).toInt64 <<< (((8 : Int32)).toInt64 &&& 63)) ||| v2.toInt64))), (0, .ref a0), (1, .int a1)]) rfl (by decide) (by decide +kernel) ?_
  refine q_loc [2, 3, 1, 0] rfl ?_
  exact v_X10_likeness_21 C Rm K _ _ _ _ _ hm
def m_X8_findAlike_65 (k55 : q_H → Nat → Int32 → Int32 → Option (Int32 × q_H)) : Nat → q_H → Nat → Int32 → Int32 → Int32 → Option (Int32 × q_H)
  | 0, _, _, _, _, _ => none
  | n + 1, h, x0, x1, x2, x3 =>
    if (60 : Int32) < x3 then
      k55 h x0 x1 ((x2 + (1 : Int32)))
    else
      (q_gn h x0 8 5).bind fun v14 =>
      (q_al h v14 x2).bind fun v15 =>
      (q_gn h x0 8 5).bind fun v16 =>
      (q_al h v16 x3).bind fun v17 =>
      if (lg_cmp v15 v17) = 0 then
        if x1 = 0 then
          (q_gn h x0 8 0).bind fun v18 =>
          (q_gn h v18 0 1).bind fun v19 =>
          (q_gi h v19 10 1).bind fun v20 =>
          some ((v20 + x2), h)
        else
          some ((x3 - x2), h)
      else
        m_X8_findAlike_65 k55 n h x0 x1 x2 ((x3 + (1 : Int32)))
set_option maxRecDepth 20000 in
set_option maxHeartbeats 1000000 in
theorem v_X8_findAlike_65 {Γ : q_G} {sz : Nat} {r : Int32} {h' : q_H} (C : q_C Γ cX8_findAlike RX8) (Rm : q_Rm Γ 4 5 131 0 0) {k55 : q_H → Nat → Int32 → Int32 → Option (Int32 × q_H)} (K : narrow .int (.int r) = .int r → q_K Γ cX8_findAlike .ireturn sz h' 0 0 [.int r]) (hk55 : ∀ (h : q_H) (x0 : Nat) (x1 : Int32) (x2 : Int32), k55 h x0 x1 x2 = some (r, h') → q_V Γ sz 0 0 h [(0, .ref x0), (1, .int x1), (2, .int x2)] [] 55) : ∀ (n : Nat) (h : q_H) (x0 : Nat) (x1 : Int32) (x2 : Int32) (x3 : Int32), m_X8_findAlike_65 k55 n h x0 x1 x2 x3 = some (r, h') → q_V Γ sz 0 0 h [(0, .ref x0), (1, .int x1), (2, .int x2), (3, .int x3)] [] 65 := by
  intro n
  induction n with
  | zero => intro h x0 x1 x2 x3 hm; cases hm
  | succ n ih =>
    intro h x0 x1 x2 x3 hm
    unfold m_X8_findAlike_65 at hm
    refine q_iload_n C (k4 := 3) 3 rfl (by decide +kernel) ?_
    refine q_bipush C (n := 60) (v := 60) (by decide) (by decide +kernel) ?_
    refine q_icmp_gt C (off := 48) 116 hm (by decide +kernel) (by decide) (fun _ hm => ?_) (fun _ hm => ?_)
    · refine q_iinc C Rm.1 (i := 2) (n := 1) (v := (x2 + (1 : Int32))) 2 rfl (q_inc _ (by decide)) (lv' := [(2, .int ((x2 + (1 : Int32)))), (0, .ref x0), (1, .int x1), (3, .int x3)]) rfl (by decide) (by decide +kernel) ?_
      refine q_goto C (off := -64) 55 (by decide +kernel) (by decide) ?_
      refine q_loc [1, 2, 0] rfl ?_
      exact hk55 _ _ _ _ hm
    · refine q_aload_n C (k4 := 0) 0 rfl (by decide +kernel) ?_
      refine q_getn C fl_8_37 hm (by decide +kernel) (fun v14 hm => ?_)
      refine q_iload_n C (k4 := 2) 2 rfl (by decide +kernel) ?_
      refine q_lr C hm (by decide +kernel) (fun v15 hm => ?_)
      refine q_aload_n C (k4 := 0) 0 rfl (by decide +kernel) ?_
      refine q_getn C fl_8_37 hm (by decide +kernel) (fun v16 hm => ?_)
      refine q_iload_n C (k4 := 3) 3 rfl (by decide +kernel) ?_
      refine q_lr C hm (by decide +kernel) (fun v17 hm => ?_)
      refine q_lcmp C (by decide +kernel) ?_
      refine q_if_ne C (off := 26) 110 hm (by decide +kernel) (by decide) (fun _ hm => ?_) (fun _ hm => ?_)
      · refine q_iinc C Rm.1 (i := 3) (n := 1) (v := (x3 + (1 : Int32))) 3 rfl (q_inc _ (by decide)) (lv' := [(3, .int ((x3 + (1 : Int32)))), (0, .ref x0), (1, .int x1), (2, .int x2)]) rfl (by decide) (by decide +kernel) ?_
        refine q_goto C (off := -48) 65 (by decide +kernel) (by decide) ?_
        refine q_loc [1, 2, 3, 0] rfl ?_
        exact ih _ _ _ _ _ hm
      · refine q_iload_n C (k4 := 1) 1 rfl (by decide +kernel) ?_
        refine q_if_ne C (off := 18) 106 hm (by decide +kernel) (by decide) (fun _ hm => ?_) (fun _ hm => ?_)
        · refine q_iload_n C (k4 := 3) 3 rfl (by decide +kernel) ?_
          refine q_iload_n C (k4 := 2) 2 rfl (by decide +kernel) ?_
          refine q_isub C (by decide +kernel) ?_
          exact q_riS hm K rfl (by decide +kernel)
        · refine q_aload_n C (k4 := 0) 0 rfl (by decide +kernel) ?_
          refine q_getn C fl_8_9 hm (by decide +kernel) (fun v18 hm => ?_)
          refine q_getn C fl_8_76 hm (by decide +kernel) (fun v19 hm => ?_)
          refine q_geti C fl_8_106 hm (by decide +kernel) (fun v20 hm => ?_)
          refine q_iload_n C (k4 := 2) 2 rfl (by decide +kernel) ?_
          refine q_iadd C (by decide +kernel) ?_
          refine q_goto C (off := 6) 109 (by decide +kernel) (by decide) ?_
          exact q_riS hm K rfl (by decide +kernel)
def m_X8_findAlike_55  : Nat → q_H → Nat → Int32 → Int32 → Option (Int32 × q_H)
  | 0, _, _, _, _ => none
  | n + 1, h, x0, x1, x2 =>
    if (60 : Int32) ≤ x2 then
      some ((-2 : Int32), h)
    else
      m_X8_findAlike_65 (m_X8_findAlike_55 n) q_fu h x0 x1 x2 ((x2 + (1 : Int32)))
set_option maxRecDepth 20000 in
set_option maxHeartbeats 1000000 in
theorem v_X8_findAlike_55 {Γ : q_G} {sz : Nat} {r : Int32} {h' : q_H} (C : q_C Γ cX8_findAlike RX8) (Rm : q_Rm Γ 4 5 131 0 0)  (K : narrow .int (.int r) = .int r → q_K Γ cX8_findAlike .ireturn sz h' 0 0 [.int r])  : ∀ (n : Nat) (h : q_H) (x0 : Nat) (x1 : Int32) (x2 : Int32), m_X8_findAlike_55 n h x0 x1 x2 = some (r, h') → q_V Γ sz 0 0 h [(0, .ref x0), (1, .int x1), (2, .int x2)] [] 55 := by
  intro n
  induction n with
  | zero => intro h x0 x1 x2 hm; cases hm
  | succ n ih =>
    intro h x0 x1 x2 hm
    unfold m_X8_findAlike_55 at hm
    refine q_iload_n C (k4 := 2) 2 rfl (by decide +kernel) ?_
    refine q_bipush C (n := 60) (v := 60) (by decide) (by decide +kernel) ?_
    refine q_icmp_ge C (off := 64) 122 hm (by decide +kernel) (by decide) (fun _ hm => ?_) (fun _ hm => ?_)
    · refine q_bipush C (n := (-2)) (v := (-2)) (by decide) (by decide +kernel) ?_
      exact q_riS hm K rfl (by decide +kernel)
    · refine q_iload_n C (k4 := 2) 2 rfl (by decide +kernel) ?_
      refine q_iconst C (n := 1) (v := 1) (by decide) (by decide +kernel) ?_
      refine q_iadd C (by decide +kernel) ?_
      refine q_istore_n C Rm.1 (k4 := 3) (i := 3) rfl (lv' := [(3, .int ((x2 + (1 : Int32)))), (0, .ref x0), (1, .int x1), (2, .int x2)]) rfl (by decide) (by decide +kernel) ?_
      refine q_loc [1, 2, 3, 0] rfl ?_
      exact v_X8_findAlike_65 C Rm K ih _ _ _ _ _ _ hm
def m_X8_findAlike_6  : Nat → q_H → Nat → Int32 → Int32 → Option (Int32 × q_H)
  | 0, _, _, _, _ => none
  | n + 1, h, x0, x1, x2 =>
    if (60 : Int32) < x2 then
      m_X8_findAlike_55 q_fu h x0 x1 ((0 : Int32))
    else
      (q_gn h x0 8 5).bind fun v3 =>
      (q_gn h x0 8 3).bind fun v4 =>
      (q_gn h x0 8 0).bind fun v5 =>
      (q_gn h v5 0 0).bind fun v6 =>
      (q_gi h v6 4 3).bind fun v7 =>
      (q_ca 10 h v4 (m_X10_likeness h v4 v7)).bind fun r8 =>
      (q_sl h v3 x2 r8).bind fun h9 =>
      (q_gn h9 x0 8 2).bind fun v10 =>
      (q_gn h9 x0 8 3).bind fun v11 =>
      (q_ca 1 h9 v10 (m_X1_heaveOn h9 v10 v11 ((1 : Int32)))).bind fun h13 =>
      m_X8_findAlike_6 n h13 x0 x1 ((x2 + (1 : Int32)))
set_option maxRecDepth 20000 in
set_option maxHeartbeats 1000000 in
theorem v_X8_findAlike_6 {Γ : q_G} {sz : Nat} {r : Int32} {h' : q_H} (C : q_C Γ cX8_findAlike RX8) (Rm : q_Rm Γ 4 5 131 0 0)  (K : narrow .int (.int r) = .int r → q_K Γ cX8_findAlike .ireturn sz h' 0 0 [.int r])  : ∀ (n : Nat) (h : q_H) (x0 : Nat) (x1 : Int32) (x2 : Int32), m_X8_findAlike_6 n h x0 x1 x2 = some (r, h') → q_V Γ sz 0 0 h [(0, .ref x0), (1, .int x1), (2, .int x2)] [] 6 := by
  intro n
  induction n with
  | zero => intro h x0 x1 x2 hm; cases hm
  | succ n ih =>
    intro h x0 x1 x2 hm
    unfold m_X8_findAlike_6 at hm
    refine q_iload_n C (k4 := 2) 2 rfl (by decide +kernel) ?_
    refine q_bipush C (n := 60) (v := 60) (by decide) (by decide +kernel) ?_
    refine q_icmp_gt C (off := 44) 53 hm (by decide +kernel) (by decide) (fun _ hm => ?_) (fun _ hm => ?_)
    · refine q_iconst C (n := 0) (v := 0) (by decide) (by decide +kernel) ?_
      refine q_istore_n C Rm.1 (k4 := 2) (i := 2) rfl (lv' := [(2, .int ((0 : Int32))), (0, .ref x0), (1, .int x1)]) rfl (by decide) (by decide +kernel) ?_
      refine q_loc [1, 2, 0] rfl ?_
      exact v_X8_findAlike_55 C Rm K _ _ _ _ _ hm
    · refine q_aload_n C (k4 := 0) 0 rfl (by decide +kernel) ?_
      refine q_getn C fl_8_37 hm (by decide +kernel) (fun v3 hm => ?_)
      refine q_iload_n C (k4 := 2) 2 rfl (by decide +kernel) ?_
      refine q_aload_n C (k4 := 0) 0 rfl (by decide +kernel) ?_
      refine q_getn C fl_8_26 hm (by decide +kernel) (fun v4 hm => ?_)
      refine q_aload_n C (k4 := 0) 0 rfl (by decide +kernel) ?_
      refine q_getn C fl_8_9 hm (by decide +kernel) (fun v5 hm => ?_)
      refine q_getn C fl_8_63 hm (by decide +kernel) (fun v6 hm => ?_)
      refine q_geti C fl_8_132 hm (by decide +kernel) (fun v7 hm => ?_)
      refine q_vlP C Rm (As := [.int v7]) (rest := [.int x2, .ref v3]) Y_X10_likeness Yv_X10_likeness ml_X8_167 (by decide) (by decide) hm (fun r9 e9 => c_X10_likeness _ _ _ _ _ _ _ _ e9) rfl rfl (Nat.le_of_ble_eq_true rfl) (by decide +kernel) (fun r8 hm => ?_)
      refine q_lw C hm (by decide +kernel) (fun h9 hm => ?_)
      refine q_aload_n C (k4 := 0) 0 rfl (by decide +kernel) ?_
      refine q_getn C fl_8_19 hm (by decide +kernel) (fun v10 hm => ?_)
      refine q_aload_n C (k4 := 0) 0 rfl (by decide +kernel) ?_
      refine q_getn C fl_8_26 hm (by decide +kernel) (fun v11 hm => ?_)
      refine q_iconst C (n := 1) (v := 1) (by decide) (by decide +kernel) ?_
      refine q_vvS C Rm (As := [.ref v11, .int ((1 : Int32))]) (rest := []) Y_X1_heaveOn Yv_X1_heaveOn ml_X8_86 (by decide) (by decide) hm (fun h13 e9 => c_X1_heaveOn _ _ _ _ _ _ _ _ _ e9) rfl rfl (Nat.le_of_ble_eq_true rfl) (by decide +kernel) (fun h13 hm => ?_)
      refine q_iinc C Rm.1 (i := 2) (n := 1) (v := (x2 + (1 : Int32))) 2 rfl (q_inc _ (by decide)) (lv' := [(2, .int ((x2 + (1 : Int32)))), (0, .ref x0), (1, .int x1)]) rfl (by decide) (by decide +kernel) ?_
      refine q_goto C (off := -44) 6 (by decide +kernel) (by decide) ?_
      refine q_loc [1, 2, 0] rfl ?_
      exact ih _ _ _ _ hm
def m_X8_findAlike (h : q_H) (a0 : Nat) (a1 : Int32) : Option (Int32 × q_H) :=
  (q_ca 8 h a0 (m_X8_startFromNow h a0)).bind fun h2 =>
  m_X8_findAlike_6 q_fu h2 a0 a1 ((0 : Int32))
set_option maxRecDepth 20000 in
set_option maxHeartbeats 1000000 in
theorem c_X8_findAlike (l : Launch) (base : Nat) (D : va_G) (tc : Nat → ClassId) (sz : Nat) (h : q_H) (a0 : Nat) (a1 : Int32) {r : Int32} {h' : q_H} (hm : m_X8_findAlike h a0 a1 = some (r, h')) : q_M l yX8_findAlike cX8_findAlike 4 (some .int) 5 131 0 0 base D tc [.ref a0, .int a1] sz h (some (.int r)) sz h' := by
  refine q_starti (by decide) (Nat.le_of_ble_eq_true rfl) (fun Γ B K => ?_)
  obtain ⟨C, Rm, -⟩ := B
  have C : q_C Γ cX8_findAlike RX8 := C
  show q_V Γ sz 0 0 h [(0, .ref a0), (1, .int a1)] [] 0
  unfold m_X8_findAlike at hm
  refine q_aload_n C (k4 := 0) 0 rfl (by decide +kernel) ?_
  refine q_vvS C Rm (As := []) (rest := []) Y_X8_startFromNow Yv_X8_startFromNow ml_X8_83 (by decide) (by decide) hm (fun h2 e9 => c_X8_startFromNow _ _ _ _ _ _ _ e9) rfl rfl (Nat.le_of_ble_eq_true rfl) (by decide +kernel) (fun h2 hm => ?_)
  refine q_iconst C (n := 0) (v := 0) (by decide) (by decide +kernel) ?_
  refine q_istore_n C Rm.1 (k4 := 2) (i := 2) rfl (lv' := [(2, .int ((0 : Int32))), (0, .ref a0), (1, .int a1)]) rfl (by decide) (by decide +kernel) ?_
  refine q_loc [1, 2, 0] rfl ?_
  exact v_X8_findAlike_6 C Rm K _ _ _ _ _ hm
def m_X8_rulesThatFit_44 (k11 : q_H → Nat → Int32 → Int32 → Int32 → Int32 → Option (Int32 × q_H)) (h : q_H) (x0 : Nat) (x2 : Int32) (x3 : Int32) (x4 : Int32) (x5 : Int32) : Option (Int32 × q_H) :=
  k11 h x0 x2 x3 x4 ((x5 + (-1 : Int32)))
set_option maxRecDepth 20000 in
set_option maxHeartbeats 1000000 in
theorem v_X8_rulesThatFit_44 {Γ : q_G} {sz : Nat} {r : Int32} {h' : q_H} (C : q_C Γ cX8_rulesThatFit RX8) (Rm : q_Rm Γ 6 6 155 0 0) {k11 : q_H → Nat → Int32 → Int32 → Int32 → Int32 → Option (Int32 × q_H)} (K : narrow .int (.int r) = .int r → q_K Γ cX8_rulesThatFit .ireturn sz h' 0 0 [.int r]) (hk11 : ∀ (h : q_H) (x0 : Nat) (x2 : Int32) (x3 : Int32) (x4 : Int32) (x5 : Int32), k11 h x0 x2 x3 x4 x5 = some (r, h') → q_V Γ sz 0 0 h [(0, .ref x0), (2, .int x2), (3, .int x3), (4, .int x4), (5, .int x5)] [] 11) : ∀ (h : q_H) (x0 : Nat) (x2 : Int32) (x3 : Int32) (x4 : Int32) (x5 : Int32), m_X8_rulesThatFit_44 k11 h x0 x2 x3 x4 x5 = some (r, h') → q_V Γ sz 0 0 h [(0, .ref x0), (2, .int x2), (3, .int x3), (4, .int x4), (5, .int x5)] [] 44 := by
  intro h x0 x2 x3 x4 x5 hm
  unfold m_X8_rulesThatFit_44 at hm
  refine q_iinc C Rm.1 (i := 5) (n := (-1)) (v := (x5 + (-1 : Int32))) 4 rfl (q_inc _ (by decide)) (lv' := [(5, .int ((x5 + (-1 : Int32)))), (0, .ref x0), (2, .int x2), (3, .int x3), (4, .int x4)]) rfl (by decide) (by decide +kernel) ?_
  refine q_goto C (off := -36) 11 (by decide +kernel) (by decide) ?_
  refine q_loc [1, 2, 3, 4, 0] rfl ?_
  exact hk11 _ _ _ _ _ _ hm
def m_X8_rulesThatFit_11  : Nat → q_H → Nat → Int32 → Int32 → Int32 → Int32 → Option (Int32 × q_H)
  | 0, _, _, _, _, _, _ => none
  | n + 1, h, x0, x2, x3, x4, x5 =>
    if x5 < (-1 : Int32) then
      if x2 = 0 then
        some (x3, h)
      else
        some (x4, h)
    else
      (q_gn h x0 8 0).bind fun v1 =>
      (q_gn h v1 0 0).bind fun v2 =>
      (q_ca 8 h x0 (m_X8_ruleAt h x0 x5)).bind fun r3 =>
      (q_ca 8 h x0 (m_X8_isAsNoted h x0 v2 r3)).bind fun (r4, h5) =>
      if r4 = 0 then
        m_X8_rulesThatFit_44 (m_X8_rulesThatFit_11 n) h5 x0 x2 x3 x4 x5
      else
        m_X8_rulesThatFit_44 (m_X8_rulesThatFit_11 n) h5 x0 x2 ((x3 + (1 : Int32))) x5 x5
set_option maxRecDepth 20000 in
set_option maxHeartbeats 1000000 in
theorem v_X8_rulesThatFit_11 {Γ : q_G} {sz : Nat} {r : Int32} {h' : q_H} (C : q_C Γ cX8_rulesThatFit RX8) (Rm : q_Rm Γ 6 6 155 0 0)  (K : narrow .int (.int r) = .int r → q_K Γ cX8_rulesThatFit .ireturn sz h' 0 0 [.int r])  : ∀ (n : Nat) (h : q_H) (x0 : Nat) (x2 : Int32) (x3 : Int32) (x4 : Int32) (x5 : Int32), m_X8_rulesThatFit_11 n h x0 x2 x3 x4 x5 = some (r, h') → q_V Γ sz 0 0 h [(0, .ref x0), (2, .int x2), (3, .int x3), (4, .int x4), (5, .int x5)] [] 11 := by
  intro n
  induction n with
  | zero => intro h x0 x2 x3 x4 x5 hm; cases hm
  | succ n ih =>
    intro h x0 x2 x3 x4 x5 hm
    unfold m_X8_rulesThatFit_11 at hm
    refine q_iload C (i := 5) 4 rfl (by decide +kernel) ?_
    refine q_iconst C (n := (-1)) (v := (-1)) (by decide) (by decide +kernel) ?_
    refine q_icmp_lt C (off := 36) 50 hm (by decide +kernel) (by decide) (fun _ hm => ?_) (fun _ hm => ?_)
    · refine q_iload_n C (k4 := 2) 1 rfl (by decide +kernel) ?_
      refine q_if_ne C (off := 7) 58 hm (by decide +kernel) (by decide) (fun _ hm => ?_) (fun _ hm => ?_)
      · refine q_iload C (i := 4) 3 rfl (by decide +kernel) ?_
        exact q_riS hm K rfl (by decide +kernel)
      · refine q_iload_n C (k4 := 3) 2 rfl (by decide +kernel) ?_
        refine q_goto C (off := 5) 60 (by decide +kernel) (by decide) ?_
        exact q_riS hm K rfl (by decide +kernel)
    · refine q_aload_n C (k4 := 0) 0 rfl (by decide +kernel) ?_
      refine q_aload_n C (k4 := 0) 0 rfl (by decide +kernel) ?_
      refine q_getn C fl_8_9 hm (by decide +kernel) (fun v1 hm => ?_)
      refine q_getn C fl_8_63 hm (by decide +kernel) (fun v2 hm => ?_)
      refine q_aload_n C (k4 := 0) 0 rfl (by decide +kernel) ?_
      refine q_iload C (i := 5) 4 rfl (by decide +kernel) ?_
      refine q_voP C Rm (As := [.int x5]) (rest := [.ref v2, .ref x0]) Y_X8_ruleAt Yv_X8_ruleAt ml_X8_59 (by decide) (by decide) hm (fun r9 e9 => c_X8_ruleAt _ _ _ _ _ _ _ _ e9) rfl rfl (Nat.le_of_ble_eq_true rfl) (by decide +kernel) (fun r3 hm => ?_)
      refine q_viS C Rm (As := [.ref v2, va_rf r3]) (rest := []) Y_X8_isAsNoted Yv_X8_isAsNoted ml_X8_148 (by decide) (by decide) hm (fun r4 h5 e9 => c_X8_isAsNoted _ _ _ _ _ _ _ _ _ e9) rfl rfl (Nat.le_of_ble_eq_true rfl) (by decide +kernel) (fun r4 h5 hm z6 => ?_)
      refine q_if_eq C (off := 10) 44 hm (by decide +kernel) (by decide) (fun _ hm => ?_) (fun _ hm => ?_)
      · exact v_X8_rulesThatFit_44 C Rm K ih _ _ _ _ _ _ hm
      · refine q_iinc C Rm.1 (i := 3) (n := 1) (v := (x3 + (1 : Int32))) 2 rfl (q_inc _ (by decide)) (lv' := [(3, .int ((x3 + (1 : Int32)))), (0, .ref x0), (2, .int x2), (4, .int x4), (5, .int x5)]) rfl (by decide) (by decide +kernel) ?_
        refine q_iload C (i := 5) 4 rfl (by decide +kernel) ?_
        refine q_istore C Rm.1 (i := 4) (lv' := [(4, .int x5), (3, .int ((x3 + (1 : Int32)))), (0, .ref x0), (2, .int x2), (5, .int x5)]) rfl (by decide) (by decide +kernel) ?_
        refine q_loc [2, 3, 1, 0, 4] rfl ?_
        exact v_X8_rulesThatFit_44 C Rm K ih _ _ _ _ _ _ hm
def m_X8_rulesThatFit (h : q_H) (a0 : Nat) (a1 : Int32) (a2 : Int32) : Option (Int32 × q_H) :=
  m_X8_rulesThatFit_11 q_fu h a0 a2 ((0 : Int32)) ((-2 : Int32)) ((a1 - (1 : Int32)))
set_option maxRecDepth 20000 in
set_option maxHeartbeats 1000000 in
theorem c_X8_rulesThatFit (l : Launch) (base : Nat) (D : va_G) (tc : Nat → ClassId) (sz : Nat) (h : q_H) (a0 : Nat) (a1 : Int32) (a2 : Int32) {r : Int32} {h' : q_H} (hm : m_X8_rulesThatFit h a0 a1 a2 = some (r, h')) : q_M l yX8_rulesThatFit cX8_rulesThatFit 6 (some .int) 6 155 0 0 base D tc [.ref a0, .int a1, .int a2] sz h (some (.int r)) sz h' := by
  refine q_starti (by decide) (Nat.le_of_ble_eq_true rfl) (fun Γ B K => ?_)
  obtain ⟨C, Rm, -⟩ := B
  have C : q_C Γ cX8_rulesThatFit RX8 := C
  show q_V Γ sz 0 0 h [(0, .ref a0), (1, .int a1), (2, .int a2)] [] 0
  unfold m_X8_rulesThatFit at hm
  refine q_iconst C (n := 0) (v := 0) (by decide) (by decide +kernel) ?_
  refine q_istore_n C Rm.1 (k4 := 3) (i := 3) rfl (lv' := [(3, .int ((0 : Int32))), (0, .ref a0), (1, .int a1), (2, .int a2)]) rfl (by decide) (by decide +kernel) ?_
  refine q_bipush C (n := (-2)) (v := (-2)) (by decide) (by decide +kernel) ?_
  refine q_istore C Rm.1 (i := 4) (lv' := [(4, .int ((-2 : Int32))), (3, .int ((0 : Int32))), (0, .ref a0), (1, .int a1), (2, .int a2)]) rfl (by decide) (by decide +kernel) ?_
  refine q_iload_n C (k4 := 1) 3 rfl (by decide +kernel) ?_
  refine q_iconst C (n := 1) (v := 1) (by decide) (by decide +kernel) ?_
  refine q_isub C (by decide +kernel) ?_
  refine q_istore C Rm.1 (i := 5) (lv' := [(5, .int ((a1 - (1 : Int32)))), (4, .int ((-2 : Int32))), (3, .int ((0 : Int32))), (0, .ref a0), (1, .int a1), (2, .int a2)]) rfl (by decide) (by decide +kernel) ?_
  refine q_loc [3, 5, 2, 1, 0] rfl ?_
  exact v_X8_rulesThatFit_11 C Rm K _ _ _ _ _ _ _ hm
def m_X8_follow_31  : Nat → q_H → Nat → Int32 → Int32 → Option q_H
  | 0, _, _, _, _ => none
  | n + 1, h, x0, x2, x3 =>
    if (60 : Int32) < x3 then
      some h
    else
      (q_gn h x0 8 2).bind fun v11 =>
      (q_gn h x0 8 3).bind fun v12 =>
      (q_ca 1 h v11 (m_X1_heaveOn h v11 v12 ((1 : Int32)))).bind fun h14 =>
      (q_gn h14 x0 8 6).bind fun v15 =>
      ((q_ar h14 v15 7 x2).bind fun o => o).bind fun v16 =>
      (q_gn h14 x0 8 3).bind fun v17 =>
      (q_gi h14 v17 10 0).bind fun v18 =>
      (q_si h14 v16 1 x3 v18).bind fun h19 =>
      m_X8_follow_31 n h19 x0 x2 ((x3 + (1 : Int32)))
set_option maxRecDepth 20000 in
set_option maxHeartbeats 1000000 in
theorem v_X8_follow_31 {Γ : q_G} {sz : Nat} {h' : q_H} (C : q_C Γ cX8_follow RX8) (Rm : q_Rm Γ 4 5 131 0 0)  (K : q_K Γ cX8_follow .return_ sz h' 0 0 [])  : ∀ (n : Nat) (h : q_H) (x0 : Nat) (x2 : Int32) (x3 : Int32), m_X8_follow_31 n h x0 x2 x3 = some h' → q_V Γ sz 0 0 h [(0, .ref x0), (2, .int x2), (3, .int x3)] [] 31 := by
  intro n
  induction n with
  | zero => intro h x0 x2 x3 hm; cases hm
  | succ n ih =>
    intro h x0 x2 x3 hm
    unfold m_X8_follow_31 at hm
    refine q_iload_n C (k4 := 3) 2 rfl (by decide +kernel) ?_
    refine q_bipush C (n := 60) (v := 60) (by decide) (by decide +kernel) ?_
    refine q_icmp_gt C (off := 36) 70 hm (by decide +kernel) (by decide) (fun _ hm => ?_) (fun _ hm => ?_)
    · exact q_rvS hm K (by decide +kernel)
    · refine q_aload_n C (k4 := 0) 0 rfl (by decide +kernel) ?_
      refine q_getn C fl_8_19 hm (by decide +kernel) (fun v11 hm => ?_)
      refine q_aload_n C (k4 := 0) 0 rfl (by decide +kernel) ?_
      refine q_getn C fl_8_26 hm (by decide +kernel) (fun v12 hm => ?_)
      refine q_iconst C (n := 1) (v := 1) (by decide) (by decide +kernel) ?_
      refine q_vvS C Rm (As := [.ref v12, .int ((1 : Int32))]) (rest := []) Y_X1_heaveOn Yv_X1_heaveOn ml_X8_86 (by decide) (by decide) hm (fun h14 e9 => c_X1_heaveOn _ _ _ _ _ _ _ _ _ e9) rfl rfl (Nat.le_of_ble_eq_true rfl) (by decide +kernel) (fun h14 hm => ?_)
      refine q_aload_n C (k4 := 0) 0 rfl (by decide +kernel) ?_
      refine q_getn C fl_8_43 hm (by decide +kernel) (fun v15 hm => ?_)
      refine q_iload_n C (k4 := 2) 1 rfl (by decide +kernel) ?_
      refine q_rrn C (ty := (.array .int)) (fun _ => rfl) rfl hm (by decide +kernel) (fun v16 hm => ?_)
      refine q_iload_n C (k4 := 3) 2 rfl (by decide +kernel) ?_
      refine q_aload_n C (k4 := 0) 0 rfl (by decide +kernel) ?_
      refine q_getn C fl_8_26 hm (by decide +kernel) (fun v17 hm => ?_)
      refine q_geti C fl_8_90 hm (by decide +kernel) (fun v18 hm => ?_)
      refine q_iw C hm (by decide +kernel) (fun h19 hm => ?_)
      refine q_iinc C Rm.1 (i := 3) (n := 1) (v := (x3 + (1 : Int32))) 2 rfl (q_inc _ (by decide)) (lv' := [(3, .int ((x3 + (1 : Int32)))), (0, .ref x0), (2, .int x2)]) rfl (by decide) (by decide +kernel) ?_
      refine q_goto C (off := -36) 31 (by decide +kernel) (by decide) ?_
      refine q_loc [1, 2, 0] rfl ?_
      exact ih _ _ _ _ hm
def m_X8_follow (h : q_H) (a0 : Nat) (a1 : Option Nat) (a2 : Int32) : Option q_H :=
  (q_gn h a0 8 2).bind fun v1 =>
  (q_gn h a0 8 0).bind fun v2 =>
  (q_gn h v2 0 0).bind fun v3 =>
  (q_ca 1 h v1 (m_X1_takeUp h v1 v3 a1)).bind fun h5 =>
  (q_gn h5 a0 8 3).bind fun v6 =>
  (q_gn h5 a0 8 0).bind fun v7 =>
  (q_gn h5 v7 0 0).bind fun v8 =>
  (q_ca 10 h5 v6 (m_X10_begin h5 v6 v8)).bind fun h10 =>
  m_X8_follow_31 q_fu h10 a0 a2 ((0 : Int32))
set_option maxRecDepth 20000 in
set_option maxHeartbeats 1000000 in
theorem c_X8_follow (l : Launch) (base : Nat) (D : va_G) (tc : Nat → ClassId) (sz : Nat) (h : q_H) (a0 : Nat) (a1 : Option Nat) (a2 : Int32) {h' : q_H} (hm : m_X8_follow h a0 a1 a2 = some h') : q_M l yX8_follow cX8_follow 4 none 5 131 0 0 base D tc [.ref a0, va_rf a1, .int a2] sz h none sz h' := by
  refine q_startv (by decide) (by cases a1 <;> exact Nat.le_of_ble_eq_true rfl) (fun Γ B K => ?_)
  obtain ⟨C, Rm, -⟩ := B
  have C : q_C Γ cX8_follow RX8 := C
  rw [show lv_args 0 [.ref a0, va_rf a1, .int a2] = [(0, .ref a0), (1, va_rf a1), (2, .int a2)] from by cases a1 <;> rfl]
  unfold m_X8_follow at hm
  refine q_aload_n C (k4 := 0) 0 rfl (by decide +kernel) ?_
  refine q_getn C fl_8_19 hm (by decide +kernel) (fun v1 hm => ?_)
  refine q_aload_n C (k4 := 0) 0 rfl (by decide +kernel) ?_
  refine q_getn C fl_8_9 hm (by decide +kernel) (fun v2 hm => ?_)
  refine q_getn C fl_8_63 hm (by decide +kernel) (fun v3 hm => ?_)
  refine q_aload_nO C (k4 := 1) 1 rfl (by decide +kernel) ?_
  refine q_vvS C Rm (As := [.ref v3, va_rf a1]) (rest := []) Y_X1_takeUp Yv_X1_takeUp ml_X8_70 (by decide) (by decide) hm (fun h5 e9 => c_X1_takeUp _ _ _ _ _ _ _ _ _ e9) rfl rfl (Nat.le_of_ble_eq_true rfl) (by decide +kernel) (fun h5 hm => ?_)
  refine q_aload_n C (k4 := 0) 0 rfl (by decide +kernel) ?_
  refine q_getn C fl_8_26 hm (by decide +kernel) (fun v6 hm => ?_)
  refine q_aload_n C (k4 := 0) 0 rfl (by decide +kernel) ?_
  refine q_getn C fl_8_9 hm (by decide +kernel) (fun v7 hm => ?_)
  refine q_getn C fl_8_63 hm (by decide +kernel) (fun v8 hm => ?_)
  refine q_vvS C Rm (As := [.ref v8]) (rest := []) Y_X10_begin Yv_X10_begin ml_X8_153 (by decide) (by decide) hm (fun h10 e9 => c_X10_begin _ _ _ _ _ _ _ _ e9) rfl rfl (Nat.le_of_ble_eq_true rfl) (by decide +kernel) (fun h10 hm => ?_)
  refine q_iconst C (n := 0) (v := 0) (by decide) (by decide +kernel) ?_
  refine q_loc [0, 2] rfl ?_
  refine q_istore_n C Rm.1 (k4 := 3) (i := 3) rfl (lv' := [(3, .int ((0 : Int32))), (0, .ref a0), (2, .int a2)]) rfl (by decide) (by decide +kernel) ?_
  refine q_loc [1, 2, 0] rfl ?_
  exact v_X8_follow_31 C Rm K _ _ _ _ _ hm
def m_X8_mostAlike_51 (k5 : q_H → Nat → Int32 → Int32 → Int32 → Int32 → Option Int32) (k17 : q_H → Nat → Int32 → Int32 → Int32 → Int32 → Int32 → Int32 → Option Int32) (h0 : q_H) (x0 : Nat) (x1 : Int32) (x2 : Int32) (x3 : Int32) (x4 : Int32) (x6 : Int32) (s0 : Int32) (s1 : Int32) : Option Int32 :=
  k17 h0 x0 x1 x2 x3 x4 ((s1 + s0)) ((x6 + (1 : Int32)))
set_option maxRecDepth 20000 in
set_option maxHeartbeats 1000000 in
theorem v_X8_mostAlike_51 {Γ : q_G} {sz : Nat} {h0 : q_H} {r : Int32} (C : q_C Γ cX8_mostAlike RX8) (Rm : q_Rm Γ 7 3 80 0 0) {k5 : q_H → Nat → Int32 → Int32 → Int32 → Int32 → Option Int32} {k17 : q_H → Nat → Int32 → Int32 → Int32 → Int32 → Int32 → Int32 → Option Int32} (K : narrow .int (.int r) = .int r → q_K Γ cX8_mostAlike .ireturn sz h0 0 0 [.int r]) (hk5 : ∀ (x0 : Nat) (x1 : Int32) (x2 : Int32) (x3 : Int32) (x4 : Int32), k5 h0 x0 x1 x2 x3 x4 = some r → q_V Γ sz 0 0 h0 [(0, .ref x0), (1, .int x1), (2, .int x2), (3, .int x3), (4, .int x4)] [] 5) (hk17 : ∀ (x0 : Nat) (x1 : Int32) (x2 : Int32) (x3 : Int32) (x4 : Int32) (x5 : Int32) (x6 : Int32), k17 h0 x0 x1 x2 x3 x4 x5 x6 = some r → q_V Γ sz 0 0 h0 [(0, .ref x0), (1, .int x1), (2, .int x2), (3, .int x3), (4, .int x4), (5, .int x5), (6, .int x6)] [] 17) : ∀ (x0 : Nat) (x1 : Int32) (x2 : Int32) (x3 : Int32) (x4 : Int32) (x6 : Int32) (s0 : Int32) (s1 : Int32), m_X8_mostAlike_51 k5 k17 h0 x0 x1 x2 x3 x4 x6 s0 s1 = some r → q_V Γ sz 0 0 h0 [(0, .ref x0), (1, .int x1), (2, .int x2), (3, .int x3), (4, .int x4), (6, .int x6)] [.int s0, .int s1] 51 := by
  intro x0 x1 x2 x3 x4 x6 s0 s1 hm
  unfold m_X8_mostAlike_51 at hm
  refine q_iadd C (by decide +kernel) ?_
  refine q_istore C Rm.1 (i := 5) (lv' := [(5, .int ((s1 + s0))), (0, .ref x0), (1, .int x1), (2, .int x2), (3, .int x3), (4, .int x4), (6, .int x6)]) rfl (by decide) (by decide +kernel) ?_
  refine q_iinc C Rm.1 (i := 6) (n := 1) (v := (x6 + (1 : Int32))) 6 rfl (q_inc _ (by decide)) (lv' := [(6, .int ((x6 + (1 : Int32)))), (5, .int ((s1 + s0))), (0, .ref x0), (1, .int x1), (2, .int x2), (3, .int x3), (4, .int x4)]) rfl (by decide) (by decide +kernel) ?_
  refine q_goto C (off := -40) 17 (by decide +kernel) (by decide) ?_
  refine q_loc [2, 3, 4, 5, 6, 1, 0] rfl ?_
  exact hk17 _ _ _ _ _ _ _ hm
def m_X8_mostAlike_17 (k5 : q_H → Nat → Int32 → Int32 → Int32 → Int32 → Option Int32) : Nat → q_H → Nat → Int32 → Int32 → Int32 → Int32 → Int32 → Int32 → Option Int32
  | 0, _, _, _, _, _, _, _, _ => none
  | n + 1, h0, x0, x1, x2, x3, x4, x5, x6 =>
    if x2 ≤ x6 then
      k5 h0 x0 x1 x2 ((if x3 < x5 then x5 else x3)) ((x4 + (1 : Int32)))
    else
      (q_gn h0 x0 8 6).bind fun v1 =>
      ((q_ar h0 v1 7 x4).bind fun o => o).bind fun v2 =>
      (q_ai h0 v2 1 x1).bind fun v3 =>
      (q_gn h0 x0 8 6).bind fun v4 =>
      ((q_ar h0 v4 7 x6).bind fun o => o).bind fun v5 =>
      (q_ai h0 v5 1 x1).bind fun v6 =>
      if v3 = v6 then
        m_X8_mostAlike_51 k5 (m_X8_mostAlike_17 k5 n) h0 x0 x1 x2 x3 x4 x6 ((1 : Int32)) x5
      else
        m_X8_mostAlike_51 k5 (m_X8_mostAlike_17 k5 n) h0 x0 x1 x2 x3 x4 x6 ((0 : Int32)) x5
set_option maxRecDepth 20000 in
set_option maxHeartbeats 1000000 in
theorem v_X8_mostAlike_17 {Γ : q_G} {sz : Nat} {h0 : q_H} {r : Int32} (C : q_C Γ cX8_mostAlike RX8) (Rm : q_Rm Γ 7 3 80 0 0) {k5 : q_H → Nat → Int32 → Int32 → Int32 → Int32 → Option Int32} (K : narrow .int (.int r) = .int r → q_K Γ cX8_mostAlike .ireturn sz h0 0 0 [.int r]) (hk5 : ∀ (x0 : Nat) (x1 : Int32) (x2 : Int32) (x3 : Int32) (x4 : Int32), k5 h0 x0 x1 x2 x3 x4 = some r → q_V Γ sz 0 0 h0 [(0, .ref x0), (1, .int x1), (2, .int x2), (3, .int x3), (4, .int x4)] [] 5) : ∀ (n : Nat) (x0 : Nat) (x1 : Int32) (x2 : Int32) (x3 : Int32) (x4 : Int32) (x5 : Int32) (x6 : Int32), m_X8_mostAlike_17 k5 n h0 x0 x1 x2 x3 x4 x5 x6 = some r → q_V Γ sz 0 0 h0 [(0, .ref x0), (1, .int x1), (2, .int x2), (3, .int x3), (4, .int x4), (5, .int x5), (6, .int x6)] [] 17 := by
  intro n
  induction n with
  | zero => intro x0 x1 x2 x3 x4 x5 x6 hm; cases hm
  | succ n ih =>
    intro x0 x1 x2 x3 x4 x5 x6 hm
    unfold m_X8_mostAlike_17 at hm
    refine q_iload C (i := 6) 6 rfl (by decide +kernel) ?_
    refine q_iload_n C (k4 := 2) 2 rfl (by decide +kernel) ?_
    refine q_icmp_ge C (off := 40) 60 hm (by decide +kernel) (by decide) (fun _ hm => ?_) (fun _ hm => ?_)
    · refine q_iload_n C (k4 := 3) 3 rfl (by decide +kernel) ?_
      refine q_iload C (i := 5) 5 rfl (by decide +kernel) ?_
      refine q_mmax C Rm ml_X8_179 (by decide) (Nat.le_of_ble_eq_true rfl) ⟨Nat.le_refl _, Nat.le_refl _⟩ (by decide +kernel) ?_
      refine q_istore_n C Rm.1 (k4 := 3) (i := 3) rfl (lv' := [(3, .int ((if x3 < x5 then x5 else x3))), (0, .ref x0), (1, .int x1), (2, .int x2), (4, .int x4), (5, .int x5), (6, .int x6)]) rfl (by decide) (by decide +kernel) ?_
      refine q_iinc C Rm.1 (i := 4) (n := 1) (v := (x4 + (1 : Int32))) 4 rfl (q_inc _ (by decide)) (lv' := [(4, .int ((x4 + (1 : Int32)))), (3, .int ((if x3 < x5 then x5 else x3))), (0, .ref x0), (1, .int x1), (2, .int x2), (5, .int x5), (6, .int x6)]) rfl (by decide) (by decide +kernel) ?_
      refine q_goto C (off := -65) 5 (by decide +kernel) (by decide) ?_
      refine q_loc [2, 3, 4, 1, 0] rfl ?_
      exact hk5 _ _ _ _ _ hm
    · refine q_iload C (i := 5) 5 rfl (by decide +kernel) ?_
      refine q_aload_n C (k4 := 0) 0 rfl (by decide +kernel) ?_
      refine q_getn C fl_8_43 hm (by decide +kernel) (fun v1 hm => ?_)
      refine q_iload C (i := 4) 4 rfl (by decide +kernel) ?_
      refine q_rrn C (ty := (.array .int)) (fun _ => rfl) rfl hm (by decide +kernel) (fun v2 hm => ?_)
      refine q_iload_n C (k4 := 1) 1 rfl (by decide +kernel) ?_
      refine q_ir C hm (by decide +kernel) (fun v3 hm => ?_)
      refine q_aload_n C (k4 := 0) 0 rfl (by decide +kernel) ?_
      refine q_getn C fl_8_43 hm (by decide +kernel) (fun v4 hm => ?_)
      refine q_iload C (i := 6) 6 rfl (by decide +kernel) ?_
      refine q_rrn C (ty := (.array .int)) (fun _ => rfl) rfl hm (by decide +kernel) (fun v5 hm => ?_)
      refine q_iload_n C (k4 := 1) 1 rfl (by decide +kernel) ?_
      refine q_ir C hm (by decide +kernel) (fun v6 hm => ?_)
      refine q_icmp_ne C (off := 7) 50 hm (by decide +kernel) (by decide) (fun _ hm => ?_) (fun _ hm => ?_)
      · refine q_iconst C (n := 0) (v := 0) (by decide) (by decide +kernel) ?_
        refine q_loc [0, 1, 2, 3, 4, 6] rfl ?_
        exact v_X8_mostAlike_51 C Rm K hk5 ih _ _ _ _ _ _ _ _ hm
      · refine q_iconst C (n := 1) (v := 1) (by decide) (by decide +kernel) ?_
        refine q_goto C (off := 4) 51 (by decide +kernel) (by decide) ?_
        refine q_loc [0, 1, 2, 3, 4, 6] rfl ?_
        exact v_X8_mostAlike_51 C Rm K hk5 ih _ _ _ _ _ _ _ _ hm
def m_X8_mostAlike_5  : Nat → q_H → Nat → Int32 → Int32 → Int32 → Int32 → Option Int32
  | 0, _, _, _, _, _, _ => none
  | n + 1, h0, x0, x1, x2, x3, x4 =>
    if x2 ≤ x4 then
      some x3
    else
      m_X8_mostAlike_17 (m_X8_mostAlike_5 n) q_fu h0 x0 x1 x2 x3 x4 ((0 : Int32)) ((0 : Int32))
set_option maxRecDepth 20000 in
set_option maxHeartbeats 1000000 in
theorem v_X8_mostAlike_5 {Γ : q_G} {sz : Nat} {h0 : q_H} {r : Int32} (C : q_C Γ cX8_mostAlike RX8) (Rm : q_Rm Γ 7 3 80 0 0)  (K : narrow .int (.int r) = .int r → q_K Γ cX8_mostAlike .ireturn sz h0 0 0 [.int r])  : ∀ (n : Nat) (x0 : Nat) (x1 : Int32) (x2 : Int32) (x3 : Int32) (x4 : Int32), m_X8_mostAlike_5 n h0 x0 x1 x2 x3 x4 = some r → q_V Γ sz 0 0 h0 [(0, .ref x0), (1, .int x1), (2, .int x2), (3, .int x3), (4, .int x4)] [] 5 := by
  intro n
  induction n with
  | zero => intro x0 x1 x2 x3 x4 hm; cases hm
  | succ n ih =>
    intro x0 x1 x2 x3 x4 hm
    unfold m_X8_mostAlike_5 at hm
    refine q_iload C (i := 4) 4 rfl (by decide +kernel) ?_
    refine q_iload_n C (k4 := 2) 2 rfl (by decide +kernel) ?_
    refine q_icmp_ge C (off := 65) 73 hm (by decide +kernel) (by decide) (fun _ hm => ?_) (fun _ hm => ?_)
    · refine q_iload_n C (k4 := 3) 3 rfl (by decide +kernel) ?_
      exact q_riP hm K rfl (by decide +kernel)
    · refine q_iconst C (n := 0) (v := 0) (by decide) (by decide +kernel) ?_
      refine q_istore C Rm.1 (i := 5) (lv' := [(5, .int ((0 : Int32))), (0, .ref x0), (1, .int x1), (2, .int x2), (3, .int x3), (4, .int x4)]) rfl (by decide) (by decide +kernel) ?_
      refine q_iconst C (n := 0) (v := 0) (by decide) (by decide +kernel) ?_
      refine q_istore C Rm.1 (i := 6) (lv' := [(6, .int ((0 : Int32))), (5, .int ((0 : Int32))), (0, .ref x0), (1, .int x1), (2, .int x2), (3, .int x3), (4, .int x4)]) rfl (by decide) (by decide +kernel) ?_
      refine q_loc [2, 3, 4, 5, 6, 1, 0] rfl ?_
      exact v_X8_mostAlike_17 C Rm K ih _ _ _ _ _ _ _ _ hm
def m_X8_mostAlike (h0 : q_H) (a0 : Nat) (a1 : Int32) (a2 : Int32) : Option Int32 :=
  m_X8_mostAlike_5 q_fu h0 a0 a1 a2 ((0 : Int32)) ((0 : Int32))
set_option maxRecDepth 20000 in
set_option maxHeartbeats 1000000 in
theorem c_X8_mostAlike (l : Launch) (base : Nat) (D : va_G) (tc : Nat → ClassId) (sz : Nat) (h0 : q_H) (a0 : Nat) (a1 : Int32) (a2 : Int32) {r : Int32} (hm : m_X8_mostAlike h0 a0 a1 a2 = some r) : q_M l yX8_mostAlike cX8_mostAlike 7 (some .int) 3 80 0 0 base D tc [.ref a0, .int a1, .int a2] sz h0 (some (.int r)) sz h0 := by
  refine q_starti (by decide) (Nat.le_of_ble_eq_true rfl) (fun Γ B K => ?_)
  obtain ⟨C, Rm, -⟩ := B
  have C : q_C Γ cX8_mostAlike RX8 := C
  show q_V Γ sz 0 0 h0 [(0, .ref a0), (1, .int a1), (2, .int a2)] [] 0
  unfold m_X8_mostAlike at hm
  refine q_iconst C (n := 0) (v := 0) (by decide) (by decide +kernel) ?_
  refine q_istore_n C Rm.1 (k4 := 3) (i := 3) rfl (lv' := [(3, .int ((0 : Int32))), (0, .ref a0), (1, .int a1), (2, .int a2)]) rfl (by decide) (by decide +kernel) ?_
  refine q_iconst C (n := 0) (v := 0) (by decide) (by decide +kernel) ?_
  refine q_istore C Rm.1 (i := 4) (lv' := [(4, .int ((0 : Int32))), (3, .int ((0 : Int32))), (0, .ref a0), (1, .int a1), (2, .int a2)]) rfl (by decide) (by decide +kernel) ?_
  refine q_loc [2, 3, 4, 1, 0] rfl ?_
  exact v_X8_mostAlike_5 C Rm K _ _ _ _ _ _ hm
def m_X8_bestPlaceToLook_45 (k5 : q_H → Nat → Int32 → Int32 → Int32 → Int32 → Option (Int32 × q_H)) (h : q_H) (x0 : Nat) (x1 : Int32) (x2 : Int32) (x3 : Int32) (x4 : Int32) : Option (Int32 × q_H) :=
  k5 h x0 x1 x2 x3 ((x4 + (1 : Int32)))
set_option maxRecDepth 20000 in
set_option maxHeartbeats 1000000 in
theorem v_X8_bestPlaceToLook_45 {Γ : q_G} {sz : Nat} {r : Int32} {h' : q_H} (C : q_C Γ cX8_bestPlaceToLook RX8) (Rm : q_Rm Γ 8 6 155 0 0) {k5 : q_H → Nat → Int32 → Int32 → Int32 → Int32 → Option (Int32 × q_H)} (K : narrow .int (.int r) = .int r → q_K Γ cX8_bestPlaceToLook .ireturn sz h' 0 0 [.int r]) (hk5 : ∀ (h : q_H) (x0 : Nat) (x1 : Int32) (x2 : Int32) (x3 : Int32) (x4 : Int32), k5 h x0 x1 x2 x3 x4 = some (r, h') → q_V Γ sz 0 0 h [(0, .ref x0), (1, .int x1), (2, .int x2), (3, .int x3), (4, .int x4)] [] 5) : ∀ (h : q_H) (x0 : Nat) (x1 : Int32) (x2 : Int32) (x3 : Int32) (x4 : Int32), m_X8_bestPlaceToLook_45 k5 h x0 x1 x2 x3 x4 = some (r, h') → q_V Γ sz 0 0 h [(0, .ref x0), (1, .int x1), (2, .int x2), (3, .int x3), (4, .int x4)] [] 45 := by
  intro h x0 x1 x2 x3 x4 hm
  unfold m_X8_bestPlaceToLook_45 at hm
  refine q_iinc C Rm.1 (i := 4) (n := 1) (v := (x4 + (1 : Int32))) 4 rfl (q_inc _ (by decide)) (lv' := [(4, .int ((x4 + (1 : Int32)))), (0, .ref x0), (1, .int x1), (2, .int x2), (3, .int x3)]) rfl (by decide) (by decide +kernel) ?_
  refine q_goto C (off := -43) 5 (by decide +kernel) (by decide) ?_
  refine q_loc [1, 2, 3, 4, 0] rfl ?_
  exact hk5 _ _ _ _ _ _ hm
def m_X8_bestPlaceToLook_98 (k67 : q_H → Nat → Int32 → Int32 → Int32 → Int32 → Int32 → Option (Int32 × q_H)) (h : q_H) (x0 : Nat) (x2 : Int32) (x3 : Int32) (x4 : Int32) (x5 : Int32) (x6 : Int32) : Option (Int32 × q_H) :=
  k67 h x0 x2 x3 x4 x5 ((x6 + (1 : Int32)))
set_option maxRecDepth 20000 in
set_option maxHeartbeats 1000000 in
theorem v_X8_bestPlaceToLook_98 {Γ : q_G} {sz : Nat} {r : Int32} {h' : q_H} (C : q_C Γ cX8_bestPlaceToLook RX8) (Rm : q_Rm Γ 8 6 155 0 0) {k67 : q_H → Nat → Int32 → Int32 → Int32 → Int32 → Int32 → Option (Int32 × q_H)} (K : narrow .int (.int r) = .int r → q_K Γ cX8_bestPlaceToLook .ireturn sz h' 0 0 [.int r]) (hk67 : ∀ (h : q_H) (x0 : Nat) (x2 : Int32) (x3 : Int32) (x4 : Int32) (x5 : Int32) (x6 : Int32), k67 h x0 x2 x3 x4 x5 x6 = some (r, h') → q_V Γ sz 0 0 h [(0, .ref x0), (2, .int x2), (3, .int x3), (4, .int x4), (5, .int x5), (6, .int x6)] [] 67) : ∀ (h : q_H) (x0 : Nat) (x2 : Int32) (x3 : Int32) (x4 : Int32) (x5 : Int32) (x6 : Int32), m_X8_bestPlaceToLook_98 k67 h x0 x2 x3 x4 x5 x6 = some (r, h') → q_V Γ sz 0 0 h [(0, .ref x0), (2, .int x2), (3, .int x3), (4, .int x4), (5, .int x5), (6, .int x6)] [] 98 := by
  intro h x0 x2 x3 x4 x5 x6 hm
  unfold m_X8_bestPlaceToLook_98 at hm
  refine q_iinc C Rm.1 (i := 6) (n := 1) (v := (x6 + (1 : Int32))) 5 rfl (q_inc _ (by decide)) (lv' := [(6, .int ((x6 + (1 : Int32)))), (0, .ref x0), (2, .int x2), (3, .int x3), (4, .int x4), (5, .int x5)]) rfl (by decide) (by decide +kernel) ?_
  refine q_goto C (off := -34) 67 (by decide +kernel) (by decide) ?_
  refine q_loc [1, 2, 3, 4, 5, 0] rfl ?_
  exact hk67 _ _ _ _ _ _ _ hm
def m_X8_bestPlaceToLook_67  : Nat → q_H → Nat → Int32 → Int32 → Int32 → Int32 → Int32 → Option (Int32 × q_H)
  | 0, _, _, _, _, _, _, _ => none
  | n + 1, h, x0, x2, x3, x4, x5, x6 =>
    if (60 : Int32) < x6 then
      if x2 = 0 then
        some (x4, h)
      else
        some (x5, h)
    else
      (q_ca 8 h x0 (m_X8_mostAlike h x0 x6 x3)).bind fun r10 =>
      if x5 ≤ r10 then
        m_X8_bestPlaceToLook_98 (m_X8_bestPlaceToLook_67 n) h x0 x2 x3 x4 x5 x6
      else
        m_X8_bestPlaceToLook_98 (m_X8_bestPlaceToLook_67 n) h x0 x2 x3 x6 r10 x6
set_option maxRecDepth 20000 in
set_option maxHeartbeats 1000000 in
theorem v_X8_bestPlaceToLook_67 {Γ : q_G} {sz : Nat} {r : Int32} {h' : q_H} (C : q_C Γ cX8_bestPlaceToLook RX8) (Rm : q_Rm Γ 8 6 155 0 0)  (K : narrow .int (.int r) = .int r → q_K Γ cX8_bestPlaceToLook .ireturn sz h' 0 0 [.int r])  : ∀ (n : Nat) (h : q_H) (x0 : Nat) (x2 : Int32) (x3 : Int32) (x4 : Int32) (x5 : Int32) (x6 : Int32), m_X8_bestPlaceToLook_67 n h x0 x2 x3 x4 x5 x6 = some (r, h') → q_V Γ sz 0 0 h [(0, .ref x0), (2, .int x2), (3, .int x3), (4, .int x4), (5, .int x5), (6, .int x6)] [] 67 := by
  intro n
  induction n with
  | zero => intro h x0 x2 x3 x4 x5 x6 hm; cases hm
  | succ n ih =>
    intro h x0 x2 x3 x4 x5 x6 hm
    unfold m_X8_bestPlaceToLook_67 at hm
    refine q_iload C (i := 6) 5 rfl (by decide +kernel) ?_
    refine q_bipush C (n := 60) (v := 60) (by decide) (by decide +kernel) ?_
    refine q_icmp_gt C (off := 33) 104 hm (by decide +kernel) (by decide) (fun _ hm => ?_) (fun _ hm => ?_)
    · refine q_iload_n C (k4 := 2) 1 rfl (by decide +kernel) ?_
      refine q_if_ne C (off := 8) 113 hm (by decide +kernel) (by decide) (fun _ hm => ?_) (fun _ hm => ?_)
      · refine q_iload C (i := 5) 4 rfl (by decide +kernel) ?_
        exact q_riS hm K rfl (by decide +kernel)
      · refine q_iload C (i := 4) 3 rfl (by decide +kernel) ?_
        refine q_goto C (off := 5) 115 (by decide +kernel) (by decide) ?_
        exact q_riS hm K rfl (by decide +kernel)
    · refine q_aload_n C (k4 := 0) 0 rfl (by decide +kernel) ?_
      refine q_iload C (i := 6) 5 rfl (by decide +kernel) ?_
      refine q_iload_n C (k4 := 3) 2 rfl (by decide +kernel) ?_
      refine q_viP C Rm (As := [.int x6, .int x3]) (rest := []) Y_X8_mostAlike Yv_X8_mostAlike ml_X8_175 (by decide) (by decide) hm (fun r9 e9 => c_X8_mostAlike _ _ _ _ _ _ _ _ _ e9) rfl rfl (Nat.le_of_ble_eq_true rfl) (by decide +kernel) (fun r10 hm z11 => ?_)
      refine q_istore C Rm.1 (i := 7) (lv' := [(7, .int r10), (0, .ref x0), (2, .int x2), (3, .int x3), (4, .int x4), (5, .int x5), (6, .int x6)]) rfl (by decide) (by decide +kernel) ?_
      refine q_iload C (i := 7) 0 rfl (by decide +kernel) ?_
      refine q_iload C (i := 5) 5 rfl (by decide +kernel) ?_
      refine q_icmp_ge C (off := 11) 98 hm (by decide +kernel) (by decide) (fun _ hm => ?_) (fun _ hm => ?_)
      · refine q_loc [1, 2, 3, 4, 5, 6] rfl ?_
        exact v_X8_bestPlaceToLook_98 C Rm K ih _ _ _ _ _ _ _ hm
      · refine q_iload C (i := 7) 0 rfl (by decide +kernel) ?_
        refine q_istore C Rm.1 (i := 5) (lv' := [(5, .int r10), (7, .int r10), (0, .ref x0), (2, .int x2), (3, .int x3), (4, .int x4), (6, .int x6)]) rfl (by decide) (by decide +kernel) ?_
        refine q_iload C (i := 6) 6 rfl (by decide +kernel) ?_
        refine q_istore C Rm.1 (i := 4) (lv' := [(4, .int x6), (5, .int r10), (7, .int r10), (0, .ref x0), (2, .int x2), (3, .int x3), (6, .int x6)]) rfl (by decide) (by decide +kernel) ?_
        refine q_loc [3, 4, 5, 0, 1, 6] rfl ?_
        exact v_X8_bestPlaceToLook_98 C Rm K ih _ _ _ _ _ _ _ hm
def m_X8_bestPlaceToLook_5  : Nat → q_H → Nat → Int32 → Int32 → Int32 → Int32 → Option (Int32 × q_H)
  | 0, _, _, _, _, _, _ => none
  | n + 1, h, x0, x1, x2, x3, x4 =>
    if x1 ≤ x4 then
      if x3 = 0 then
        some ((-2 : Int32), h)
      else
        m_X8_bestPlaceToLook_67 q_fu h x0 x2 x3 ((0 : Int32)) x3 ((0 : Int32))
    else
      (q_gn h x0 8 0).bind fun v1 =>
      (q_gn h v1 0 0).bind fun v2 =>
      (q_ca 8 h x0 (m_X8_ruleAt h x0 x4)).bind fun r3 =>
      (q_ca 8 h x0 (m_X8_isAsNoted h x0 v2 r3)).bind fun (r4, h5) =>
      if r4 = 0 then
        m_X8_bestPlaceToLook_45 (m_X8_bestPlaceToLook_5 n) h5 x0 x1 x2 x3 x4
      else
        (q_ca 8 h5 x0 (m_X8_ruleAt h5 x0 x4)).bind fun r7 =>
        (q_ca 8 h5 x0 (m_X8_follow h5 x0 r7 x3)).bind fun h9 =>
        m_X8_bestPlaceToLook_45 (m_X8_bestPlaceToLook_5 n) h9 x0 x1 x2 ((x3 + (1 : Int32))) x4
set_option maxRecDepth 20000 in
set_option maxHeartbeats 1000000 in
theorem v_X8_bestPlaceToLook_5 {Γ : q_G} {sz : Nat} {r : Int32} {h' : q_H} (C : q_C Γ cX8_bestPlaceToLook RX8) (Rm : q_Rm Γ 8 6 155 0 0)  (K : narrow .int (.int r) = .int r → q_K Γ cX8_bestPlaceToLook .ireturn sz h' 0 0 [.int r])  : ∀ (n : Nat) (h : q_H) (x0 : Nat) (x1 : Int32) (x2 : Int32) (x3 : Int32) (x4 : Int32), m_X8_bestPlaceToLook_5 n h x0 x1 x2 x3 x4 = some (r, h') → q_V Γ sz 0 0 h [(0, .ref x0), (1, .int x1), (2, .int x2), (3, .int x3), (4, .int x4)] [] 5 := by
  intro n
  induction n with
  | zero => intro h x0 x1 x2 x3 x4 hm; cases hm
  | succ n ih =>
    intro h x0 x1 x2 x3 x4 hm
    unfold m_X8_bestPlaceToLook_5 at hm
    refine q_iload C (i := 4) 4 rfl (by decide +kernel) ?_
    refine q_iload_n C (k4 := 1) 1 rfl (by decide +kernel) ?_
    refine q_icmp_ge C (off := 43) 51 hm (by decide +kernel) (by decide) (fun _ hm => ?_) (fun _ hm => ?_)
    · refine q_iload_n C (k4 := 3) 3 rfl (by decide +kernel) ?_
      refine q_if_ne C (off := 6) 58 hm (by decide +kernel) (by decide) (fun _ hm => ?_) (fun _ hm => ?_)
      · refine q_iconst C (n := 0) (v := 0) (by decide) (by decide +kernel) ?_
        refine q_istore C Rm.1 (i := 4) (lv' := [(4, .int ((0 : Int32))), (0, .ref x0), (1, .int x1), (2, .int x2), (3, .int x3)]) rfl (by decide) (by decide +kernel) ?_
        refine q_iload_n C (k4 := 3) 4 rfl (by decide +kernel) ?_
        refine q_istore C Rm.1 (i := 5) (lv' := [(5, .int x3), (4, .int ((0 : Int32))), (0, .ref x0), (1, .int x1), (2, .int x2), (3, .int x3)]) rfl (by decide) (by decide +kernel) ?_
        refine q_iconst C (n := 0) (v := 0) (by decide) (by decide +kernel) ?_
        refine q_istore C Rm.1 (i := 6) (lv' := [(6, .int ((0 : Int32))), (5, .int x3), (4, .int ((0 : Int32))), (0, .ref x0), (1, .int x1), (2, .int x2), (3, .int x3)]) rfl (by decide) (by decide +kernel) ?_
        refine q_loc [3, 5, 6, 2, 1, 0] rfl ?_
        exact v_X8_bestPlaceToLook_67 C Rm K _ _ _ _ _ _ _ _ hm
      · refine q_bipush C (n := (-2)) (v := (-2)) (by decide) (by decide +kernel) ?_
        exact q_riS hm K rfl (by decide +kernel)
    · refine q_aload_n C (k4 := 0) 0 rfl (by decide +kernel) ?_
      refine q_aload_n C (k4 := 0) 0 rfl (by decide +kernel) ?_
      refine q_getn C fl_8_9 hm (by decide +kernel) (fun v1 hm => ?_)
      refine q_getn C fl_8_63 hm (by decide +kernel) (fun v2 hm => ?_)
      refine q_aload_n C (k4 := 0) 0 rfl (by decide +kernel) ?_
      refine q_iload C (i := 4) 4 rfl (by decide +kernel) ?_
      refine q_voP C Rm (As := [.int x4]) (rest := [.ref v2, .ref x0]) Y_X8_ruleAt Yv_X8_ruleAt ml_X8_59 (by decide) (by decide) hm (fun r9 e9 => c_X8_ruleAt _ _ _ _ _ _ _ _ e9) rfl rfl (Nat.le_of_ble_eq_true rfl) (by decide +kernel) (fun r3 hm => ?_)
      refine q_viS C Rm (As := [.ref v2, va_rf r3]) (rest := []) Y_X8_isAsNoted Yv_X8_isAsNoted ml_X8_148 (by decide) (by decide) hm (fun r4 h5 e9 => c_X8_isAsNoted _ _ _ _ _ _ _ _ _ e9) rfl rfl (Nat.le_of_ble_eq_true rfl) (by decide +kernel) (fun r4 h5 hm z6 => ?_)
      refine q_if_eq C (off := 17) 45 hm (by decide +kernel) (by decide) (fun _ hm => ?_) (fun _ hm => ?_)
      · exact v_X8_bestPlaceToLook_45 C Rm K ih _ _ _ _ _ _ hm
      · refine q_aload_n C (k4 := 0) 0 rfl (by decide +kernel) ?_
        refine q_aload_n C (k4 := 0) 0 rfl (by decide +kernel) ?_
        refine q_iload C (i := 4) 4 rfl (by decide +kernel) ?_
        refine q_voP C Rm (As := [.int x4]) (rest := [.ref x0]) Y_X8_ruleAt Yv_X8_ruleAt ml_X8_59 (by decide) (by decide) hm (fun r9 e9 => c_X8_ruleAt _ _ _ _ _ _ _ _ e9) rfl rfl (Nat.le_of_ble_eq_true rfl) (by decide +kernel) (fun r7 hm => ?_)
        refine q_iload_n C (k4 := 3) 3 rfl (by decide +kernel) ?_
        refine q_vvS C Rm (As := [va_rf r7, .int x3]) (rest := []) Y_X8_follow Yv_X8_follow ml_X8_171 (by decide) (by decide) hm (fun h9 e9 => c_X8_follow _ _ _ _ _ _ _ _ _ e9) rfl rfl (Nat.le_of_ble_eq_true rfl) (by decide +kernel) (fun h9 hm => ?_)
        refine q_iinc C Rm.1 (i := 3) (n := 1) (v := (x3 + (1 : Int32))) 3 rfl (q_inc _ (by decide)) (lv' := [(3, .int ((x3 + (1 : Int32)))), (0, .ref x0), (1, .int x1), (2, .int x2), (4, .int x4)]) rfl (by decide) (by decide +kernel) ?_
        refine q_loc [1, 2, 3, 0, 4] rfl ?_
        exact v_X8_bestPlaceToLook_45 C Rm K ih _ _ _ _ _ _ hm
def m_X8_bestPlaceToLook (h : q_H) (a0 : Nat) (a1 : Int32) (a2 : Int32) : Option (Int32 × q_H) :=
  m_X8_bestPlaceToLook_5 q_fu h a0 a1 a2 ((0 : Int32)) ((-1 : Int32))
set_option maxRecDepth 20000 in
set_option maxHeartbeats 1000000 in
theorem c_X8_bestPlaceToLook (l : Launch) (base : Nat) (D : va_G) (tc : Nat → ClassId) (sz : Nat) (h : q_H) (a0 : Nat) (a1 : Int32) (a2 : Int32) {r : Int32} {h' : q_H} (hm : m_X8_bestPlaceToLook h a0 a1 a2 = some (r, h')) : q_M l yX8_bestPlaceToLook cX8_bestPlaceToLook 8 (some .int) 6 155 0 0 base D tc [.ref a0, .int a1, .int a2] sz h (some (.int r)) sz h' := by
  refine q_starti (by decide) (Nat.le_of_ble_eq_true rfl) (fun Γ B K => ?_)
  obtain ⟨C, Rm, -⟩ := B
  have C : q_C Γ cX8_bestPlaceToLook RX8 := C
  show q_V Γ sz 0 0 h [(0, .ref a0), (1, .int a1), (2, .int a2)] [] 0
  unfold m_X8_bestPlaceToLook at hm
  refine q_iconst C (n := 0) (v := 0) (by decide) (by decide +kernel) ?_
  refine q_istore_n C Rm.1 (k4 := 3) (i := 3) rfl (lv' := [(3, .int ((0 : Int32))), (0, .ref a0), (1, .int a1), (2, .int a2)]) rfl (by decide) (by decide +kernel) ?_
  refine q_iconst C (n := (-1)) (v := (-1)) (by decide) (by decide +kernel) ?_
  refine q_istore C Rm.1 (i := 4) (lv' := [(4, .int ((-1 : Int32))), (3, .int ((0 : Int32))), (0, .ref a0), (1, .int a1), (2, .int a2)]) rfl (by decide) (by decide +kernel) ?_
  refine q_loc [2, 3, 4, 1, 0] rfl ?_
  exact v_X8_bestPlaceToLook_5 C Rm K _ _ _ _ _ _ _ hm
def m_X8_drawnAfter (a0 : Int32) : Option Int32 :=
  some (((q_rml (((a0.toInt64 * (1103515245 : Int64)) + (12345 : Int64))) ((2147483648 : Int64)))).toInt32)
set_option maxRecDepth 20000 in
set_option maxHeartbeats 1000000 in
theorem c_X8_drawnAfter (l : Launch) (base : Nat) (D : va_G) (tc : Nat → ClassId) (sz : Nat) (h0 : q_H) (a0 : Int32) {r : Int32} (hm : m_X8_drawnAfter a0 = some r) : q_M l yX8_drawnAfter cX8_drawnAfter 1 (some .int) 0 0 0 0 base D tc [.int a0] sz h0 (some (.int r)) sz h0 := by
  refine q_starti (by decide) (Nat.le_of_ble_eq_true rfl) (fun Γ B K => ?_)
  obtain ⟨C, Rm, -⟩ := B
  have C : q_C Γ cX8_drawnAfter RX8 := C
  show q_V Γ sz 0 0 h0 [(0, .int a0)] [] 0
  unfold m_X8_drawnAfter at hm
  refine q_iload_n C (k4 := 0) 0 rfl (by decide +kernel) ?_
  refine q_i2l C (by decide +kernel) ?_
  refine q_ldc2 C (idx := 191) (v := 1103515245) (q_m5 96 rfl rfl) (by decide +kernel) ?_
  refine q_lmul C (by decide +kernel) ?_
  refine q_ldc2 C (idx := 193) (v := 12345) (q_m5 97 rfl rfl) (by decide +kernel) ?_
  refine q_ladd C (by decide +kernel) ?_
  refine q_ldc2 C (idx := 195) (v := 2147483648) (q_m5 98 rfl rfl) (by decide +kernel) ?_
  refine q_lrem C (by decide) (by decide +kernel) ?_
  refine q_l2i C (by decide +kernel) ?_
  exact q_riP hm K rfl (by decide +kernel)
def m_X8_drawOf (a0 : Int32) : Option Int32 :=
  some ((a0 / (65536 : Int32)))
set_option maxRecDepth 20000 in
set_option maxHeartbeats 1000000 in
theorem c_X8_drawOf (l : Launch) (base : Nat) (D : va_G) (tc : Nat → ClassId) (sz : Nat) (h0 : q_H) (a0 : Int32) {r : Int32} (hm : m_X8_drawOf a0 = some r) : q_M l yX8_drawOf cX8_drawOf 1 (some .int) 0 0 0 0 base D tc [.int a0] sz h0 (some (.int r)) sz h0 := by
  refine q_starti (by decide) (Nat.le_of_ble_eq_true rfl) (fun Γ B K => ?_)
  obtain ⟨C, Rm, -⟩ := B
  have C : q_C Γ cX8_drawOf RX8 := C
  show q_V Γ sz 0 0 h0 [(0, .int a0)] [] 0
  unfold m_X8_drawOf at hm
  refine q_iload_n C (k4 := 0) 0 rfl (by decide +kernel) ?_
  refine q_ldc C (idx := 197) (v := 65536) (q_m5 102 rfl rfl) (by decide +kernel) ?_
  refine q_idiv C (by decide) (by decide +kernel) ?_
  exact q_riP hm K rfl (by decide +kernel)
def m_X8_inRain_108 (k18 : q_H → Nat → Int32 → Int32 → Int32 → Int32 → Int32 → Int32 → Int32 → Int32 → Option (Int32 × q_H)) (k31 : q_H → Nat → Int32 → Int32 → Int32 → Int32 → Int32 → Int32 → Int32 → Int32 → Int32 → Option (Int32 × q_H)) (h : q_H) (x0 : Nat) (x1 : Int32) (x2 : Int32) (x3 : Int32) (x4 : Int32) (x5 : Int32) (x6 : Int32) (x7 : Int32) (x8 : Int32) (x9 : Int32) : Option (Int32 × q_H) :=
  (q_gn h x0 8 2).bind fun v27 =>
  (q_gn h x0 8 3).bind fun v28 =>
  (q_ca 1 h v27 (m_X1_heaveOn h v27 v28 ((1 : Int32)))).bind fun h30 =>
  k31 h30 x0 x1 x2 x3 x4 x5 x6 x7 x8 ((x9 + (1 : Int32)))
set_option maxRecDepth 20000 in
set_option maxHeartbeats 1000000 in
theorem v_X8_inRain_108 {Γ : q_G} {sz : Nat} {r : Int32} {h' : q_H} (C : q_C Γ cX8_inRain RX8) (Rm : q_Rm Γ 10 5 131 0 0) {k18 : q_H → Nat → Int32 → Int32 → Int32 → Int32 → Int32 → Int32 → Int32 → Int32 → Option (Int32 × q_H)} {k31 : q_H → Nat → Int32 → Int32 → Int32 → Int32 → Int32 → Int32 → Int32 → Int32 → Int32 → Option (Int32 × q_H)} (K : narrow .int (.int r) = .int r → q_K Γ cX8_inRain .ireturn sz h' 0 0 [.int r]) (hk18 : ∀ (h : q_H) (x0 : Nat) (x1 : Int32) (x2 : Int32) (x3 : Int32) (x4 : Int32) (x5 : Int32) (x6 : Int32) (x7 : Int32) (x8 : Int32), k18 h x0 x1 x2 x3 x4 x5 x6 x7 x8 = some (r, h') → q_V Γ sz 0 0 h [(0, .ref x0), (1, .int x1), (2, .int x2), (3, .int x3), (4, .int x4), (5, .int x5), (6, .int x6), (7, .int x7), (8, .int x8)] [] 18) (hk31 : ∀ (h : q_H) (x0 : Nat) (x1 : Int32) (x2 : Int32) (x3 : Int32) (x4 : Int32) (x5 : Int32) (x6 : Int32) (x7 : Int32) (x8 : Int32) (x9 : Int32), k31 h x0 x1 x2 x3 x4 x5 x6 x7 x8 x9 = some (r, h') → q_V Γ sz 0 0 h [(0, .ref x0), (1, .int x1), (2, .int x2), (3, .int x3), (4, .int x4), (5, .int x5), (6, .int x6), (7, .int x7), (8, .int x8), (9, .int x9)] [] 31) : ∀ (h : q_H) (x0 : Nat) (x1 : Int32) (x2 : Int32) (x3 : Int32) (x4 : Int32) (x5 : Int32) (x6 : Int32) (x7 : Int32) (x8 : Int32) (x9 : Int32), m_X8_inRain_108 k18 k31 h x0 x1 x2 x3 x4 x5 x6 x7 x8 x9 = some (r, h') → q_V Γ sz 0 0 h [(0, .ref x0), (1, .int x1), (2, .int x2), (3, .int x3), (4, .int x4), (5, .int x5), (6, .int x6), (7, .int x7), (8, .int x8), (9, .int x9)] [] 108 := by
  intro h x0 x1 x2 x3 x4 x5 x6 x7 x8 x9 hm
  unfold m_X8_inRain_108 at hm
  refine q_aload_n C (k4 := 0) 0 rfl (by decide +kernel) ?_
  refine q_getn C fl_8_19 hm (by decide +kernel) (fun v27 hm => ?_)
  refine q_aload_n C (k4 := 0) 0 rfl (by decide +kernel) ?_
  refine q_getn C fl_8_26 hm (by decide +kernel) (fun v28 hm => ?_)
  refine q_iconst C (n := 1) (v := 1) (by decide) (by decide +kernel) ?_
  refine q_vvS C Rm (As := [.ref v28, .int ((1 : Int32))]) (rest := []) Y_X1_heaveOn Yv_X1_heaveOn ml_X8_86 (by decide) (by decide) hm (fun h30 e9 => c_X1_heaveOn _ _ _ _ _ _ _ _ _ e9) rfl rfl (Nat.le_of_ble_eq_true rfl) (by decide +kernel) (fun h30 hm => ?_)
  refine q_iinc C Rm.1 (i := 9) (n := 1) (v := (x9 + (1 : Int32))) 9 rfl (q_inc _ (by decide)) (lv' := [(9, .int ((x9 + (1 : Int32)))), (0, .ref x0), (1, .int x1), (2, .int x2), (3, .int x3), (4, .int x4), (5, .int x5), (6, .int x6), (7, .int x7), (8, .int x8)]) rfl (by decide) (by decide +kernel) ?_
  refine q_goto C (off := -92) 31 (by decide +kernel) (by decide) ?_
  refine q_loc [1, 2, 3, 4, 5, 6, 7, 8, 9, 0] rfl ?_
  exact hk31 _ _ _ _ _ _ _ _ _ _ _ hm
def m_X8_inRain_153 (k18 : q_H → Nat → Int32 → Int32 → Int32 → Int32 → Int32 → Int32 → Int32 → Int32 → Option (Int32 × q_H)) (h : q_H) (x0 : Nat) (x1 : Int32) (x2 : Int32) (x3 : Int32) (x4 : Int32) (x6 : Int32) (x7 : Int32) (x8 : Int32) (s0 : Int32) (s1 : Int32) : Option (Int32 × q_H) :=
  (q_gn h x0 8 3).bind fun v31 =>
  (q_gi h v31 10 0).bind fun v32 =>
  k18 h x0 x1 x2 x3 x4 ((s1 + s0)) ((x6 + (v32 + (200 : Int32)))) x7 ((x8 + (1 : Int32)))
set_option maxRecDepth 20000 in
set_option maxHeartbeats 1000000 in
theorem v_X8_inRain_153 {Γ : q_G} {sz : Nat} {r : Int32} {h' : q_H} (C : q_C Γ cX8_inRain RX8) (Rm : q_Rm Γ 10 5 131 0 0) {k18 : q_H → Nat → Int32 → Int32 → Int32 → Int32 → Int32 → Int32 → Int32 → Int32 → Option (Int32 × q_H)} (K : narrow .int (.int r) = .int r → q_K Γ cX8_inRain .ireturn sz h' 0 0 [.int r]) (hk18 : ∀ (h : q_H) (x0 : Nat) (x1 : Int32) (x2 : Int32) (x3 : Int32) (x4 : Int32) (x5 : Int32) (x6 : Int32) (x7 : Int32) (x8 : Int32), k18 h x0 x1 x2 x3 x4 x5 x6 x7 x8 = some (r, h') → q_V Γ sz 0 0 h [(0, .ref x0), (1, .int x1), (2, .int x2), (3, .int x3), (4, .int x4), (5, .int x5), (6, .int x6), (7, .int x7), (8, .int x8)] [] 18) : ∀ (h : q_H) (x0 : Nat) (x1 : Int32) (x2 : Int32) (x3 : Int32) (x4 : Int32) (x6 : Int32) (x7 : Int32) (x8 : Int32) (s0 : Int32) (s1 : Int32), m_X8_inRain_153 k18 h x0 x1 x2 x3 x4 x6 x7 x8 s0 s1 = some (r, h') → q_V Γ sz 0 0 h [(0, .ref x0), (1, .int x1), (2, .int x2), (3, .int x3), (4, .int x4), (6, .int x6), (7, .int x7), (8, .int x8)] [.int s0, .int s1] 153 := by
  intro h x0 x1 x2 x3 x4 x6 x7 x8 s0 s1 hm
  unfold m_X8_inRain_153 at hm
  refine q_iadd C (by decide +kernel) ?_
  refine q_istore C Rm.1 (i := 5) (lv' := [(5, .int ((s1 + s0))), (0, .ref x0), (1, .int x1), (2, .int x2), (3, .int x3), (4, .int x4), (6, .int x6), (7, .int x7), (8, .int x8)]) rfl (by decide) (by decide +kernel) ?_
  refine q_iload C (i := 6) 6 rfl (by decide +kernel) ?_
  refine q_aload_n C (k4 := 0) 1 rfl (by decide +kernel) ?_
  refine q_getn C fl_8_26 hm (by decide +kernel) (fun v31 hm => ?_)
  refine q_geti C fl_8_90 hm (by decide +kernel) (fun v32 hm => ?_)
  refine q_sipush C (n := 200) (v := 200) (by decide) (by decide +kernel) ?_
  refine q_iadd C (by decide +kernel) ?_
  refine q_iadd C (by decide +kernel) ?_
  refine q_istore C Rm.1 (i := 6) (lv' := [(6, .int ((x6 + (v32 + (200 : Int32))))), (5, .int ((s1 + s0))), (0, .ref x0), (1, .int x1), (2, .int x2), (3, .int x3), (4, .int x4), (7, .int x7), (8, .int x8)]) rfl (by decide) (by decide +kernel) ?_
  refine q_iinc C Rm.1 (i := 8) (n := 1) (v := (x8 + (1 : Int32))) 8 rfl (q_inc _ (by decide)) (lv' := [(8, .int ((x8 + (1 : Int32)))), (6, .int ((x6 + (v32 + (200 : Int32))))), (5, .int ((s1 + s0))), (0, .ref x0), (1, .int x1), (2, .int x2), (3, .int x3), (4, .int x4), (7, .int x7)]) rfl (by decide) (by decide +kernel) ?_
  refine q_goto C (off := -157) 18 (by decide +kernel) (by decide) ?_
  refine q_loc [3, 4, 5, 6, 7, 2, 1, 8, 0] rfl ?_
  exact hk18 _ _ _ _ _ _ _ _ _ _ hm
def m_X8_inRain_31 (k18 : q_H → Nat → Int32 → Int32 → Int32 → Int32 → Int32 → Int32 → Int32 → Int32 → Option (Int32 × q_H)) : Nat → q_H → Nat → Int32 → Int32 → Int32 → Int32 → Int32 → Int32 → Int32 → Int32 → Int32 → Option (Int32 × q_H)
  | 0, _, _, _, _, _, _, _, _, _, _, _ => none
  | n + 1, h, x0, x1, x2, x3, x4, x5, x6, x7, x8, x9 =>
    if x2 ≤ x9 then
      (q_gn h x0 8 3).bind fun v5 =>
      (q_gi h v5 10 0).bind fun v6 =>
      (q_gn h x0 8 0).bind fun v7 =>
      (q_gn h v7 0 0).bind fun v8 =>
      (q_gi h v8 4 0).bind fun v9 =>
      if v6 < v9 then
        m_X8_inRain_153 k18 h x0 x1 x2 x3 x4 x6 x7 x8 ((0 : Int32)) x5
      else
        m_X8_inRain_153 k18 h x0 x1 x2 x3 x4 x6 x7 x8 ((1 : Int32)) x5
    else
      (m_X8_drawnAfter x7).bind fun r10 =>
      (m_X8_drawOf r10).bind fun r12 =>
      if x3 ≤ (q_rmi r12 ((100 : Int32))) then
        m_X8_inRain_108 k18 (m_X8_inRain_31 k18 n) h x0 x1 x2 x3 x4 x5 x6 r10 x8 x9
      else
        (q_gn h x0 8 0).bind fun v14 =>
        (q_gn h v14 0 0).bind fun v15 =>
        (q_gi h v15 4 3).bind fun v16 =>
        if v16 ≤ 0 then
          m_X8_inRain_108 k18 (m_X8_inRain_31 k18 n) h x0 x1 x2 x3 x4 x5 x6 r10 x8 x9
        else
          (m_X8_drawnAfter r10).bind fun r17 =>
          (q_gn h x0 8 3).bind fun v19 =>
          (q_gi h v19 10 2).bind fun v20 =>
          (m_X8_drawOf r17).bind fun r21 =>
          (q_gn h x0 8 0).bind fun v23 =>
          (q_gn h v23 0 0).bind fun v24 =>
          (q_gi h v24 4 3).bind fun v25 =>
          if v25 = 0 then none else
          (q_pf h v19 10 2 (.int ((v20 &&& (((1 : Int32) <<< ((q_rmi r21 v25) &&& 31)) ^^^ (-1 : Int32)))))).bind fun h26 =>
          m_X8_inRain_108 k18 (m_X8_inRain_31 k18 n) h26 x0 x1 x2 x3 x4 x5 x6 r17 x8 x9
set_option maxRecDepth 20000 in
set_option maxHeartbeats 1000000 in
theorem v_X8_inRain_31 {Γ : q_G} {sz : Nat} {r : Int32} {h' : q_H} (C : q_C Γ cX8_inRain RX8) (Rm : q_Rm Γ 10 5 131 0 0) {k18 : q_H → Nat → Int32 → Int32 → Int32 → Int32 → Int32 → Int32 → Int32 → Int32 → Option (Int32 × q_H)} (K : narrow .int (.int r) = .int r → q_K Γ cX8_inRain .ireturn sz h' 0 0 [.int r]) (hk18 : ∀ (h : q_H) (x0 : Nat) (x1 : Int32) (x2 : Int32) (x3 : Int32) (x4 : Int32) (x5 : Int32) (x6 : Int32) (x7 : Int32) (x8 : Int32), k18 h x0 x1 x2 x3 x4 x5 x6 x7 x8 = some (r, h') → q_V Γ sz 0 0 h [(0, .ref x0), (1, .int x1), (2, .int x2), (3, .int x3), (4, .int x4), (5, .int x5), (6, .int x6), (7, .int x7), (8, .int x8)] [] 18) : ∀ (n : Nat) (h : q_H) (x0 : Nat) (x1 : Int32) (x2 : Int32) (x3 : Int32) (x4 : Int32) (x5 : Int32) (x6 : Int32) (x7 : Int32) (x8 : Int32) (x9 : Int32), m_X8_inRain_31 k18 n h x0 x1 x2 x3 x4 x5 x6 x7 x8 x9 = some (r, h') → q_V Γ sz 0 0 h [(0, .ref x0), (1, .int x1), (2, .int x2), (3, .int x3), (4, .int x4), (5, .int x5), (6, .int x6), (7, .int x7), (8, .int x8), (9, .int x9)] [] 31 := by
  intro n
  induction n with
  | zero => intro h x0 x1 x2 x3 x4 x5 x6 x7 x8 x9 hm; cases hm
  | succ n ih =>
    intro h x0 x1 x2 x3 x4 x5 x6 x7 x8 x9 hm
    unfold m_X8_inRain_31 at hm
    refine q_iload C (i := 9) 9 rfl (by decide +kernel) ?_
    refine q_iload_n C (k4 := 2) 2 rfl (by decide +kernel) ?_
    refine q_icmp_ge C (off := 92) 126 hm (by decide +kernel) (by decide) (fun _ hm => ?_) (fun _ hm => ?_)
    · refine q_iload C (i := 5) 5 rfl (by decide +kernel) ?_
      refine q_aload_n C (k4 := 0) 0 rfl (by decide +kernel) ?_
      refine q_getn C fl_8_26 hm (by decide +kernel) (fun v5 hm => ?_)
      refine q_geti C fl_8_90 hm (by decide +kernel) (fun v6 hm => ?_)
      refine q_aload_n C (k4 := 0) 0 rfl (by decide +kernel) ?_
      refine q_getn C fl_8_9 hm (by decide +kernel) (fun v7 hm => ?_)
      refine q_getn C fl_8_63 hm (by decide +kernel) (fun v8 hm => ?_)
      refine q_geti C fl_8_99 hm (by decide +kernel) (fun v9 hm => ?_)
      refine q_icmp_lt C (off := 7) 152 hm (by decide +kernel) (by decide) (fun _ hm => ?_) (fun _ hm => ?_)
      · refine q_iconst C (n := 0) (v := 0) (by decide) (by decide +kernel) ?_
        refine q_loc [0, 1, 2, 3, 4, 6, 7, 8] rfl ?_
        exact v_X8_inRain_153 C Rm K hk18 _ _ _ _ _ _ _ _ _ _ _ hm
      · refine q_iconst C (n := 1) (v := 1) (by decide) (by decide +kernel) ?_
        refine q_goto C (off := 4) 153 (by decide +kernel) (by decide) ?_
        refine q_loc [0, 1, 2, 3, 4, 6, 7, 8] rfl ?_
        exact v_X8_inRain_153 C Rm K hk18 _ _ _ _ _ _ _ _ _ _ _ hm
    · refine q_iload C (i := 7) 7 rfl (by decide +kernel) ?_
      refine q_siP C Rm (As := [.int x7]) (rest := []) Y_X8_drawnAfter Ys_X8_drawnAfter ml_X8_185 (by decide) (by decide) hm (fun r9 e9 => c_X8_drawnAfter _ _ _ _ _ _ _ e9) rfl rfl (Nat.le_of_ble_eq_true rfl) (by decide +kernel) (fun r10 hm z11 => ?_)
      refine q_istore C Rm.1 (i := 7) (lv' := [(7, .int r10), (0, .ref x0), (1, .int x1), (2, .int x2), (3, .int x3), (4, .int x4), (5, .int x5), (6, .int x6), (8, .int x8), (9, .int x9)]) rfl (by decide) (by decide +kernel) ?_
      refine q_iload C (i := 7) 0 rfl (by decide +kernel) ?_
      refine q_siP C Rm (As := [.int r10]) (rest := []) Y_X8_drawOf Ys_X8_drawOf ml_X8_188 (by decide) (by decide) hm (fun r9 e9 => c_X8_drawOf _ _ _ _ _ _ _ e9) rfl rfl (Nat.le_of_ble_eq_true rfl) (by decide +kernel) (fun r12 hm z13 => ?_)
      refine q_bipush C (n := 100) (v := 100) (by decide) (by decide +kernel) ?_
      refine q_irem C (by decide) (by decide +kernel) ?_
      refine q_iload_n C (k4 := 3) 4 rfl (by decide +kernel) ?_
      refine q_icmp_ge C (off := 55) 108 hm (by decide +kernel) (by decide) (fun _ hm => ?_) (fun _ hm => ?_)
      · refine q_loc [1, 2, 3, 4, 5, 6, 7, 0, 8, 9] rfl ?_
        exact v_X8_inRain_108 C Rm K hk18 ih _ _ _ _ _ _ _ _ _ _ _ hm
      · refine q_aload_n C (k4 := 0) 1 rfl (by decide +kernel) ?_
        refine q_getn C fl_8_9 hm (by decide +kernel) (fun v14 hm => ?_)
        refine q_getn C fl_8_63 hm (by decide +kernel) (fun v15 hm => ?_)
        refine q_geti C fl_8_132 hm (by decide +kernel) (fun v16 hm => ?_)
        refine q_if_le C (off := 42) 108 hm (by decide +kernel) (by decide) (fun _ hm => ?_) (fun _ hm => ?_)
        · refine q_loc [1, 2, 3, 4, 5, 6, 7, 0, 8, 9] rfl ?_
          exact v_X8_inRain_108 C Rm K hk18 ih _ _ _ _ _ _ _ _ _ _ _ hm
        · refine q_iload C (i := 7) 0 rfl (by decide +kernel) ?_
          refine q_siP C Rm (As := [.int r10]) (rest := []) Y_X8_drawnAfter Ys_X8_drawnAfter ml_X8_185 (by decide) (by decide) hm (fun r9 e9 => c_X8_drawnAfter _ _ _ _ _ _ _ e9) rfl rfl (Nat.le_of_ble_eq_true rfl) (by decide +kernel) (fun r17 hm z18 => ?_)
          refine q_istore C Rm.1 (i := 7) (lv' := [(7, .int r17), (0, .ref x0), (1, .int x1), (2, .int x2), (3, .int x3), (4, .int x4), (5, .int x5), (6, .int x6), (8, .int x8), (9, .int x9)]) rfl (by decide) (by decide +kernel) ?_
          refine q_aload_n C (k4 := 0) 1 rfl (by decide +kernel) ?_
          refine q_getn C fl_8_26 hm (by decide +kernel) (fun v19 hm => ?_)
          refine q_dup C rfl (by decide +kernel) ?_
          refine q_geti C fl_8_96 hm (by decide +kernel) (fun v20 hm => ?_)
          refine q_iconst C (n := 1) (v := 1) (by decide) (by decide +kernel) ?_
          refine q_iload C (i := 7) 0 rfl (by decide +kernel) ?_
          refine q_siP C Rm (As := [.int r17]) (rest := [.int ((1 : Int32)), .int v20, .ref v19]) Y_X8_drawOf Ys_X8_drawOf ml_X8_188 (by decide) (by decide) hm (fun r9 e9 => c_X8_drawOf _ _ _ _ _ _ _ e9) rfl rfl (Nat.le_of_ble_eq_true rfl) (by decide +kernel) (fun r21 hm z22 => ?_)
          refine q_aload_n C (k4 := 0) 1 rfl (by decide +kernel) ?_
          refine q_getn C fl_8_9 hm (by decide +kernel) (fun v23 hm => ?_)
          refine q_getn C fl_8_63 hm (by decide +kernel) (fun v24 hm => ?_)
          refine q_geti C fl_8_132 hm (by decide +kernel) (fun v25 hm => ?_)
          refine q_iremc C hm (by decide +kernel) (fun hm => ?_)
          refine q_ishl C (by decide +kernel) ?_
          refine q_iconst C (n := (-1)) (v := (-1)) (by decide) (by decide +kernel) ?_
          refine q_ixor C (by decide +kernel) ?_
          refine q_iand C (by decide +kernel) ?_
          refine q_putf C fl_8_96 hm rfl rfl (by decide +kernel) (fun h26 hm => ?_)
          refine q_loc [1, 2, 3, 4, 5, 6, 7, 0, 8, 9] rfl ?_
          exact v_X8_inRain_108 C Rm K hk18 ih _ _ _ _ _ _ _ _ _ _ _ hm
def m_X8_inRain_18  : Nat → q_H → Nat → Int32 → Int32 → Int32 → Int32 → Int32 → Int32 → Int32 → Int32 → Option (Int32 × q_H)
  | 0, _, _, _, _, _, _, _, _, _, _ => none
  | n + 1, h, x0, x1, x2, x3, x4, x5, x6, x7, x8 =>
    if x1 ≤ x8 then
      if x4 = 0 then
        some (x5, h)
      else
        some (x6, h)
    else
      (q_ca 8 h x0 (m_X8_startFromNow h x0)).bind fun h4 =>
      m_X8_inRain_31 (m_X8_inRain_18 n) q_fu h4 x0 x1 x2 x3 x4 x5 x6 x7 x8 ((0 : Int32))
set_option maxRecDepth 20000 in
set_option maxHeartbeats 1000000 in
theorem v_X8_inRain_18 {Γ : q_G} {sz : Nat} {r : Int32} {h' : q_H} (C : q_C Γ cX8_inRain RX8) (Rm : q_Rm Γ 10 5 131 0 0)  (K : narrow .int (.int r) = .int r → q_K Γ cX8_inRain .ireturn sz h' 0 0 [.int r])  : ∀ (n : Nat) (h : q_H) (x0 : Nat) (x1 : Int32) (x2 : Int32) (x3 : Int32) (x4 : Int32) (x5 : Int32) (x6 : Int32) (x7 : Int32) (x8 : Int32), m_X8_inRain_18 n h x0 x1 x2 x3 x4 x5 x6 x7 x8 = some (r, h') → q_V Γ sz 0 0 h [(0, .ref x0), (1, .int x1), (2, .int x2), (3, .int x3), (4, .int x4), (5, .int x5), (6, .int x6), (7, .int x7), (8, .int x8)] [] 18 := by
  intro n
  induction n with
  | zero => intro h x0 x1 x2 x3 x4 x5 x6 x7 x8 hm; cases hm
  | succ n ih =>
    intro h x0 x1 x2 x3 x4 x5 x6 x7 x8 hm
    unfold m_X8_inRain_18 at hm
    refine q_iload C (i := 8) 8 rfl (by decide +kernel) ?_
    refine q_iload_n C (k4 := 1) 1 rfl (by decide +kernel) ?_
    refine q_icmp_ge C (off := 157) 178 hm (by decide +kernel) (by decide) (fun _ hm => ?_) (fun _ hm => ?_)
    · refine q_iload C (i := 4) 4 rfl (by decide +kernel) ?_
      refine q_if_ne C (off := 8) 188 hm (by decide +kernel) (by decide) (fun _ hm => ?_) (fun _ hm => ?_)
      · refine q_iload C (i := 6) 6 rfl (by decide +kernel) ?_
        exact q_riS hm K rfl (by decide +kernel)
      · refine q_iload C (i := 5) 5 rfl (by decide +kernel) ?_
        refine q_goto C (off := 5) 190 (by decide +kernel) (by decide) ?_
        exact q_riS hm K rfl (by decide +kernel)
    · refine q_aload_n C (k4 := 0) 0 rfl (by decide +kernel) ?_
      refine q_vvS C Rm (As := []) (rest := []) Y_X8_startFromNow Yv_X8_startFromNow ml_X8_83 (by decide) (by decide) hm (fun h4 e9 => c_X8_startFromNow _ _ _ _ _ _ _ e9) rfl rfl (Nat.le_of_ble_eq_true rfl) (by decide +kernel) (fun h4 hm => ?_)
      refine q_iconst C (n := 0) (v := 0) (by decide) (by decide +kernel) ?_
      refine q_istore C Rm.1 (i := 9) (lv' := [(9, .int ((0 : Int32))), (0, .ref x0), (1, .int x1), (2, .int x2), (3, .int x3), (4, .int x4), (5, .int x5), (6, .int x6), (7, .int x7), (8, .int x8)]) rfl (by decide) (by decide +kernel) ?_
      refine q_loc [1, 2, 3, 4, 5, 6, 7, 8, 9, 0] rfl ?_
      exact v_X8_inRain_31 C Rm K ih _ _ _ _ _ _ _ _ _ _ _ _ hm
def m_X8_inRain (h : q_H) (a0 : Nat) (a1 : Int32) (a2 : Int32) (a3 : Int32) (a4 : Int32) : Option (Int32 × q_H) :=
  (q_gn h a0 8 0).bind fun v1 =>
  (q_gi h v1 0 3).bind fun v2 =>
  m_X8_inRain_18 q_fu h a0 a1 a2 a3 a4 ((0 : Int32)) ((0 : Int32)) v2 ((0 : Int32))
set_option maxRecDepth 20000 in
set_option maxHeartbeats 1000000 in
theorem c_X8_inRain (l : Launch) (base : Nat) (D : va_G) (tc : Nat → ClassId) (sz : Nat) (h : q_H) (a0 : Nat) (a1 : Int32) (a2 : Int32) (a3 : Int32) (a4 : Int32) {r : Int32} {h' : q_H} (hm : m_X8_inRain h a0 a1 a2 a3 a4 = some (r, h')) : q_M l yX8_inRain cX8_inRain 10 (some .int) 5 131 0 0 base D tc [.ref a0, .int a1, .int a2, .int a3, .int a4] sz h (some (.int r)) sz h' := by
  refine q_starti (by decide) (Nat.le_of_ble_eq_true rfl) (fun Γ B K => ?_)
  obtain ⟨C, Rm, -⟩ := B
  have C : q_C Γ cX8_inRain RX8 := C
  show q_V Γ sz 0 0 h [(0, .ref a0), (1, .int a1), (2, .int a2), (3, .int a3), (4, .int a4)] [] 0
  unfold m_X8_inRain at hm
  refine q_iconst C (n := 0) (v := 0) (by decide) (by decide +kernel) ?_
  refine q_istore C Rm.1 (i := 5) (lv' := [(5, .int ((0 : Int32))), (0, .ref a0), (1, .int a1), (2, .int a2), (3, .int a3), (4, .int a4)]) rfl (by decide) (by decide +kernel) ?_
  refine q_iconst C (n := 0) (v := 0) (by decide) (by decide +kernel) ?_
  refine q_istore C Rm.1 (i := 6) (lv' := [(6, .int ((0 : Int32))), (5, .int ((0 : Int32))), (0, .ref a0), (1, .int a1), (2, .int a2), (3, .int a3), (4, .int a4)]) rfl (by decide) (by decide +kernel) ?_
  refine q_aload_n C (k4 := 0) 2 rfl (by decide +kernel) ?_
  refine q_getn C fl_8_9 hm (by decide +kernel) (fun v1 hm => ?_)
  refine q_geti C fl_8_182 hm (by decide +kernel) (fun v2 hm => ?_)
  refine q_istore C Rm.1 (i := 7) (lv' := [(7, .int v2), (6, .int ((0 : Int32))), (5, .int ((0 : Int32))), (0, .ref a0), (1, .int a1), (2, .int a2), (3, .int a3), (4, .int a4)]) rfl (by decide) (by decide +kernel) ?_
  refine q_iconst C (n := 0) (v := 0) (by decide) (by decide +kernel) ?_
  refine q_istore C Rm.1 (i := 8) (lv' := [(8, .int ((0 : Int32))), (7, .int v2), (6, .int ((0 : Int32))), (5, .int ((0 : Int32))), (0, .ref a0), (1, .int a1), (2, .int a2), (3, .int a3), (4, .int a4)]) rfl (by decide) (by decide +kernel) ?_
  refine q_loc [4, 5, 6, 7, 8, 3, 2, 1, 0] rfl ?_
  exact v_X8_inRain_18 C Rm K _ _ _ _ _ _ _ _ _ _ _ hm
