def m_X3_numberIn_14  : Nat → q_H → Nat → Int32 → Int32 → Int32 → Option Int32
  | 0, _, _, _, _, _ => none
  | n + 1, h0, x0, x2, x3, x4 =>
    if x2 ≤ x4 then
      some x3
    else
      (q_gn h0 x0 3 0).bind fun v1 =>
      (q_ca 9 h0 v1 (m_X9_byteAt h0 v1 x4)).bind fun r2 =>
      m_X3_numberIn_14 n h0 x0 x2 ((((x3 * (10 : Int32)) + r2) - (48 : Int32))) ((x4 + (1 : Int32)))
set_option maxRecDepth 20000 in
set_option maxHeartbeats 1000000 in
theorem v_X3_numberIn_14 {Γ : q_G} {sz : Nat} {h0 : q_H} {r : Int32} (C : q_C Γ cX3_numberIn RX3) (Rm : q_Rm Γ 5 1 21 0 0)  (K : narrow .int (.int r) = .int r → q_K Γ cX3_numberIn .ireturn sz h0 0 0 [.int r])  : ∀ (n : Nat) (x0 : Nat) (x2 : Int32) (x3 : Int32) (x4 : Int32), m_X3_numberIn_14 n h0 x0 x2 x3 x4 = some r → q_V Γ sz 0 0 h0 [(0, .ref x0), (2, .int x2), (3, .int x3), (4, .int x4)] [] 14 := by
  intro n
  induction n with
  | zero => intro x0 x2 x3 x4 hm; cases hm
  | succ n ih =>
    intro x0 x2 x3 x4 hm
    unfold m_X3_numberIn_14 at hm
    refine q_iload C (i := 4) 3 rfl (by decide +kernel) ?_
    refine q_iload_n C (k4 := 2) 1 rfl (by decide +kernel) ?_
    refine q_icmp_ge C (off := 27) 44 hm (by decide +kernel) (by decide) (fun _ hm => ?_) (fun _ hm => ?_)
    · refine q_iload_n C (k4 := 3) 2 rfl (by decide +kernel) ?_
      exact q_riP hm K rfl (by decide +kernel)
    · refine q_iload_n C (k4 := 3) 2 rfl (by decide +kernel) ?_
      refine q_bipush C (n := 10) (v := 10) (by decide) (by decide +kernel) ?_
      refine q_imul C (by decide +kernel) ?_
      refine q_aload_n C (k4 := 0) 0 rfl (by decide +kernel) ?_
      refine q_getn C fl_3_11 hm (by decide +kernel) (fun v1 hm => ?_)
      refine q_iload C (i := 4) 3 rfl (by decide +kernel) ?_
      refine q_viP C Rm (As := [.int x4]) (rest := [.int ((x3 * (10 : Int32)))]) Y_X9_byteAt Yv_X9_byteAt ml_X3_34 (by decide) (by decide) hm (fun r9 e9 => c_X9_byteAt _ _ _ _ _ _ _ _ e9) rfl rfl (Nat.le_of_ble_eq_true rfl) (by decide +kernel) (fun r2 hm z3 => ?_)
      refine q_iadd C (by decide +kernel) ?_
      refine q_bipush C (n := 48) (v := 48) (by decide) (by decide +kernel) ?_
      refine q_isub C (by decide +kernel) ?_
      refine q_istore_n C Rm.1 (k4 := 3) (i := 3) rfl (lv' := [(3, .int ((((x3 * (10 : Int32)) + r2) - (48 : Int32)))), (0, .ref x0), (2, .int x2), (4, .int x4)]) rfl (by decide) (by decide +kernel) ?_
      refine q_iinc C Rm.1 (i := 4) (n := 1) (v := (x4 + (1 : Int32))) 3 rfl (q_inc _ (by decide)) (lv' := [(4, .int ((x4 + (1 : Int32)))), (3, .int ((((x3 * (10 : Int32)) + r2) - (48 : Int32)))), (0, .ref x0), (2, .int x2)]) rfl (by decide) (by decide +kernel) ?_
      refine q_goto C (off := -27) 14 (by decide +kernel) (by decide) ?_
      refine q_loc [2, 3, 1, 0] rfl ?_
      exact ih _ _ _ _ hm
def m_X3_numberIn (h0 : q_H) (a0 : Nat) (a1 : Int32) (a2 : Int32) : Option Int32 :=
  if (a2 - a1) ≤ (5 : Int32) then
    m_X3_numberIn_14 q_fu h0 a0 a2 ((0 : Int32)) a1
  else
    some ((-1 : Int32))
set_option maxRecDepth 20000 in
set_option maxHeartbeats 1000000 in
theorem c_X3_numberIn (l : Launch) (base : Nat) (D : va_G) (tc : Nat → ClassId) (sz : Nat) (h0 : q_H) (a0 : Nat) (a1 : Int32) (a2 : Int32) {r : Int32} (hm : m_X3_numberIn h0 a0 a1 a2 = some r) : q_M l yX3_numberIn cX3_numberIn 5 (some .int) 1 21 0 0 base D tc [.ref a0, .int a1, .int a2] sz h0 (some (.int r)) sz h0 := by
  refine q_starti (by decide) (Nat.le_of_ble_eq_true rfl) (fun Γ B K => ?_)
  obtain ⟨C, Rm, -⟩ := B
  have C : q_C Γ cX3_numberIn RX3 := C
  show q_V Γ sz 0 0 h0 [(0, .ref a0), (1, .int a1), (2, .int a2)] [] 0
  unfold m_X3_numberIn at hm
  refine q_iload_n C (k4 := 2) 2 rfl (by decide +kernel) ?_
  refine q_iload_n C (k4 := 1) 1 rfl (by decide +kernel) ?_
  refine q_isub C (by decide +kernel) ?_
  refine q_iconst C (n := 5) (v := 5) (by decide) (by decide +kernel) ?_
  refine q_icmp_le C (off := 5) 9 hm (by decide +kernel) (by decide) (fun _ hm => ?_) (fun _ hm => ?_)
  · refine q_iconst C (n := 0) (v := 0) (by decide) (by decide +kernel) ?_
    refine q_istore_n C Rm.1 (k4 := 3) (i := 3) rfl (lv' := [(3, .int ((0 : Int32))), (0, .ref a0), (1, .int a1), (2, .int a2)]) rfl (by decide) (by decide +kernel) ?_
    refine q_iload_n C (k4 := 1) 2 rfl (by decide +kernel) ?_
    refine q_istore C Rm.1 (i := 4) (lv' := [(4, .int a1), (3, .int ((0 : Int32))), (0, .ref a0), (1, .int a1), (2, .int a2)]) rfl (by decide) (by decide +kernel) ?_
    refine q_loc [2, 4, 1, 0] rfl ?_
    exact v_X3_numberIn_14 C Rm K _ _ _ _ _ hm
  · refine q_iconst C (n := (-1)) (v := (-1)) (by decide) (by decide +kernel) ?_
    exact q_riP hm K rfl (by decide +kernel)
def m_X3_add (h : q_H) (a0 : Nat) (a1 : Int32) (a2 : Int32) (a3 : Int32) : Option q_H :=
  (q_gi h a0 3 4).bind fun v1 =>
  if (400 : Int32) < v1 then
    some h
  else
    (q_gn h a0 3 1).bind fun v2 =>
    (q_gi h a0 3 4).bind fun v3 =>
    (q_si h v2 1 v3 a1).bind fun h4 =>
    (q_gn h4 a0 3 2).bind fun v5 =>
    (q_gi h4 a0 3 4).bind fun v6 =>
    (q_si h4 v5 1 v6 a2).bind fun h7 =>
    (q_gn h7 a0 3 3).bind fun v8 =>
    (q_gi h7 a0 3 4).bind fun v9 =>
    (q_si h7 v8 1 v9 a3).bind fun h10 =>
    (q_gi h10 a0 3 4).bind fun v11 =>
    (q_pf h10 a0 3 4 (.int ((v11 + (1 : Int32))))).bind fun h12 =>
    some h12
set_option maxRecDepth 20000 in
set_option maxHeartbeats 1000000 in
theorem c_X3_add (l : Launch) (base : Nat) (D : va_G) (tc : Nat → ClassId) (sz : Nat) (h : q_H) (a0 : Nat) (a1 : Int32) (a2 : Int32) (a3 : Int32) {h' : q_H} (hm : m_X3_add h a0 a1 a2 a3 = some h') : q_M l yX3_add cX3_add 4 none 0 0 0 0 base D tc [.ref a0, .int a1, .int a2, .int a3] sz h none sz h' := by
  refine q_startv (by decide) (Nat.le_of_ble_eq_true rfl) (fun Γ B K => ?_)
  obtain ⟨C, Rm, -⟩ := B
  have C : q_C Γ cX3_add RX3 := C
  show q_V Γ sz 0 0 h [(0, .ref a0), (1, .int a1), (2, .int a2), (3, .int a3)] [] 0
  unfold m_X3_add at hm
  refine q_aload_n C (k4 := 0) 0 rfl (by decide +kernel) ?_
  refine q_geti C fl_3_27 hm (by decide +kernel) (fun v1 hm => ?_)
  refine q_sipush C (n := 400) (v := 400) (by decide) (by decide +kernel) ?_
  refine q_icmp_gt C (off := 43) 50 hm (by decide +kernel) (by decide) (fun _ hm => ?_) (fun _ hm => ?_)
  · exact q_rvS hm K (by decide +kernel)
  · refine q_aload_n C (k4 := 0) 0 rfl (by decide +kernel) ?_
    refine q_getn C fl_3_17 hm (by decide +kernel) (fun v2 hm => ?_)
    refine q_aload_n C (k4 := 0) 0 rfl (by decide +kernel) ?_
    refine q_geti C fl_3_27 hm (by decide +kernel) (fun v3 hm => ?_)
    refine q_iload_n C (k4 := 1) 1 rfl (by decide +kernel) ?_
    refine q_iw C hm (by decide +kernel) (fun h4 hm => ?_)
    refine q_aload_n C (k4 := 0) 0 rfl (by decide +kernel) ?_
    refine q_getn C fl_3_21 hm (by decide +kernel) (fun v5 hm => ?_)
    refine q_aload_n C (k4 := 0) 0 rfl (by decide +kernel) ?_
    refine q_geti C fl_3_27 hm (by decide +kernel) (fun v6 hm => ?_)
    refine q_iload_n C (k4 := 2) 2 rfl (by decide +kernel) ?_
    refine q_iw C hm (by decide +kernel) (fun h7 hm => ?_)
    refine q_aload_n C (k4 := 0) 0 rfl (by decide +kernel) ?_
    refine q_getn C fl_3_24 hm (by decide +kernel) (fun v8 hm => ?_)
    refine q_aload_n C (k4 := 0) 0 rfl (by decide +kernel) ?_
    refine q_geti C fl_3_27 hm (by decide +kernel) (fun v9 hm => ?_)
    refine q_iload_n C (k4 := 3) 3 rfl (by decide +kernel) ?_
    refine q_iw C hm (by decide +kernel) (fun h10 hm => ?_)
    refine q_aload_n C (k4 := 0) 0 rfl (by decide +kernel) ?_
    refine q_dup C rfl (by decide +kernel) ?_
    refine q_geti C fl_3_27 hm (by decide +kernel) (fun v11 hm => ?_)
    refine q_iconst C (n := 1) (v := 1) (by decide) (by decide +kernel) ?_
    refine q_iadd C (by decide +kernel) ?_
    refine q_putf C fl_3_27 hm rfl rfl (by decide +kernel) (fun h12 hm => ?_)
    exact q_rvS hm K (by decide +kernel)
def m_X3_next_23  (h : q_H) (x0 : Nat) : Option q_H :=
  (q_gn h x0 3 1).bind fun v5 =>
  (q_gi h x0 3 5).bind fun v6 =>
  (q_ai h v5 1 v6).bind fun v7 =>
  (q_pf h x0 3 6 (.int v7)).bind fun h8 =>
  (q_gn h8 x0 3 2).bind fun v9 =>
  (q_gi h8 x0 3 5).bind fun v10 =>
  (q_ai h8 v9 1 v10).bind fun v11 =>
  (q_pf h8 x0 3 7 (.int v11)).bind fun h12 =>
  some h12
set_option maxRecDepth 20000 in
set_option maxHeartbeats 1000000 in
theorem v_X3_next_23 {Γ : q_G} {sz : Nat} {h' : q_H} (C : q_C Γ cX3_next RX3) (Rm : q_Rm Γ 1 0 0 0 0)  (K : q_K Γ cX3_next .return_ sz h' 0 0 [])  : ∀ (h : q_H) (x0 : Nat), m_X3_next_23 h x0 = some h' → q_V Γ sz 0 0 h [(0, .ref x0)] [] 23 := by
  intro h x0 hm
  unfold m_X3_next_23 at hm
  refine q_aload_n C (k4 := 0) 0 rfl (by decide +kernel) ?_
  refine q_aload_n C (k4 := 0) 0 rfl (by decide +kernel) ?_
  refine q_getn C fl_3_17 hm (by decide +kernel) (fun v5 hm => ?_)
  refine q_aload_n C (k4 := 0) 0 rfl (by decide +kernel) ?_
  refine q_geti C fl_3_48 hm (by decide +kernel) (fun v6 hm => ?_)
  refine q_ir C hm (by decide +kernel) (fun v7 hm => ?_)
  refine q_putf C fl_3_54 hm rfl rfl (by decide +kernel) (fun h8 hm => ?_)
  refine q_aload_n C (k4 := 0) 0 rfl (by decide +kernel) ?_
  refine q_aload_n C (k4 := 0) 0 rfl (by decide +kernel) ?_
  refine q_getn C fl_3_21 hm (by decide +kernel) (fun v9 hm => ?_)
  refine q_aload_n C (k4 := 0) 0 rfl (by decide +kernel) ?_
  refine q_geti C fl_3_48 hm (by decide +kernel) (fun v10 hm => ?_)
  refine q_ir C hm (by decide +kernel) (fun v11 hm => ?_)
  refine q_putf C fl_3_57 hm rfl rfl (by decide +kernel) (fun h12 hm => ?_)
  exact q_rvS hm K (by decide +kernel)
def m_X3_next (h : q_H) (a0 : Nat) : Option q_H :=
  (q_gi h a0 3 5).bind fun v1 =>
  (q_gi h a0 3 4).bind fun v2 =>
  if v2 ≤ (v1 + (1 : Int32)) then
    m_X3_next_23 h a0
  else
    (q_gi h a0 3 5).bind fun v3 =>
    (q_pf h a0 3 5 (.int ((v3 + (1 : Int32))))).bind fun h4 =>
    m_X3_next_23 h4 a0
set_option maxRecDepth 20000 in
set_option maxHeartbeats 1000000 in
theorem c_X3_next (l : Launch) (base : Nat) (D : va_G) (tc : Nat → ClassId) (sz : Nat) (h : q_H) (a0 : Nat) {h' : q_H} (hm : m_X3_next h a0 = some h') : q_M l yX3_next cX3_next 1 none 0 0 0 0 base D tc [.ref a0] sz h none sz h' := by
  refine q_startv (by decide) (Nat.le_of_ble_eq_true rfl) (fun Γ B K => ?_)
  obtain ⟨C, Rm, -⟩ := B
  have C : q_C Γ cX3_next RX3 := C
  show q_V Γ sz 0 0 h [(0, .ref a0)] [] 0
  unfold m_X3_next at hm
  refine q_aload_n C (k4 := 0) 0 rfl (by decide +kernel) ?_
  refine q_geti C fl_3_48 hm (by decide +kernel) (fun v1 hm => ?_)
  refine q_iconst C (n := 1) (v := 1) (by decide) (by decide +kernel) ?_
  refine q_iadd C (by decide +kernel) ?_
  refine q_aload_n C (k4 := 0) 0 rfl (by decide +kernel) ?_
  refine q_geti C fl_3_27 hm (by decide +kernel) (fun v2 hm => ?_)
  refine q_icmp_ge C (off := 13) 23 hm (by decide +kernel) (by decide) (fun _ hm => ?_) (fun _ hm => ?_)
  · exact v_X3_next_23 C Rm K _ _ hm
  · refine q_aload_n C (k4 := 0) 0 rfl (by decide +kernel) ?_
    refine q_dup C rfl (by decide +kernel) ?_
    refine q_geti C fl_3_48 hm (by decide +kernel) (fun v3 hm => ?_)
    refine q_iconst C (n := 1) (v := 1) (by decide) (by decide +kernel) ?_
    refine q_iadd C (by decide +kernel) ?_
    refine q_putf C fl_3_48 hm rfl rfl (by decide +kernel) (fun h4 hm => ?_)
    exact v_X3_next_23 C Rm K _ _ hm
def m_X3_refuse (h : q_H) (a0 : Nat) (a1 : Int32) : Option (Int32 × q_H) :=
  (q_gi h a0 3 8).bind fun v1 =>
  if v1 = 0 then
    (q_gn h a0 3 3).bind fun v2 =>
    (q_gi h a0 3 5).bind fun v3 =>
    (q_ai h v2 1 v3).bind fun v4 =>
    (q_pf h a0 3 8 (.int ((((1 : Int32) + ((8 : Int32) * v4)) + a1)))).bind fun h5 =>
    some ((0 : Int32), h5)
  else
    some ((0 : Int32), h)
set_option maxRecDepth 20000 in
set_option maxHeartbeats 1000000 in
theorem c_X3_refuse (l : Launch) (base : Nat) (D : va_G) (tc : Nat → ClassId) (sz : Nat) (h : q_H) (a0 : Nat) (a1 : Int32) {r : Int32} {h' : q_H} (hm : m_X3_refuse h a0 a1 = some (r, h')) : q_M l yX3_refuse cX3_refuse 2 (some .boolean) 0 0 0 0 base D tc [.ref a0, .int a1] sz h (some (.int r)) sz h' := by
  refine q_starti (by decide) (Nat.le_of_ble_eq_true rfl) (fun Γ B K => ?_)
  obtain ⟨C, Rm, -⟩ := B
  have C : q_C Γ cX3_refuse RX3 := C
  show q_V Γ sz 0 0 h [(0, .ref a0), (1, .int a1)] [] 0
  unfold m_X3_refuse at hm
  refine q_aload_n C (k4 := 0) 0 rfl (by decide +kernel) ?_
  refine q_geti C fl_3_45 hm (by decide +kernel) (fun v1 hm => ?_)
  refine q_if_ne C (off := 23) 27 hm (by decide +kernel) (by decide) (fun _ hm => ?_) (fun _ hm => ?_)
  · refine q_iconst C (n := 0) (v := 0) (by decide) (by decide +kernel) ?_
    exact q_riS hm K q_z0 (by decide +kernel)
  · refine q_aload_n C (k4 := 0) 0 rfl (by decide +kernel) ?_
    refine q_iconst C (n := 1) (v := 1) (by decide) (by decide +kernel) ?_
    refine q_bipush C (n := 8) (v := 8) (by decide) (by decide +kernel) ?_
    refine q_aload_n C (k4 := 0) 0 rfl (by decide +kernel) ?_
    refine q_getn C fl_3_24 hm (by decide +kernel) (fun v2 hm => ?_)
    refine q_aload_n C (k4 := 0) 0 rfl (by decide +kernel) ?_
    refine q_geti C fl_3_48 hm (by decide +kernel) (fun v3 hm => ?_)
    refine q_ir C hm (by decide +kernel) (fun v4 hm => ?_)
    refine q_imul C (by decide +kernel) ?_
    refine q_iadd C (by decide +kernel) ?_
    refine q_iload_n C (k4 := 1) 1 rfl (by decide +kernel) ?_
    refine q_iadd C (by decide +kernel) ?_
    refine q_putf C fl_3_45 hm rfl rfl (by decide +kernel) (fun h5 hm => ?_)
    refine q_iconst C (n := 0) (v := 0) (by decide) (by decide +kernel) ?_
    exact q_riS hm K q_z0 (by decide +kernel)
def m_X3_isNumber_32  (h : q_H) (x0 : Nat) : Option (Int32 × q_H) :=
  (q_ca 3 h x0 (m_X3_refuse h x0 ((1 : Int32)))).bind fun (r7, h8) =>
  if r7 = 0 then
    some ((0 : Int32), h8)
  else
    some ((1 : Int32), h8)
set_option maxRecDepth 20000 in
set_option maxHeartbeats 1000000 in
theorem v_X3_isNumber_32 {Γ : q_G} {sz : Nat} {r : Int32} {h' : q_H} (C : q_C Γ cX3_isNumber RX3) (Rm : q_Rm Γ 3 1 21 0 0)  (K : narrow .boolean (.int r) = .int r → q_K Γ cX3_isNumber .ireturn sz h' 0 0 [.int r])  : ∀ (h : q_H) (x0 : Nat), m_X3_isNumber_32 h x0 = some (r, h') → q_V Γ sz 0 0 h [(0, .ref x0)] [] 32 := by
  intro h x0 hm
  unfold m_X3_isNumber_32 at hm
  refine q_aload_n C (k4 := 0) 0 rfl (by decide +kernel) ?_
  refine q_iconst C (n := 1) (v := 1) (by decide) (by decide +kernel) ?_
  refine q_viS C Rm (As := [.int ((1 : Int32))]) (rest := []) Y_X3_refuse Yv_X3_refuse ml_X3_82 (by decide) (by decide) hm (fun r7 h8 e9 => c_X3_refuse _ _ _ _ _ _ _ _ e9) rfl rfl (Nat.le_of_ble_eq_true rfl) (by decide +kernel) (fun r7 h8 hm z9 => ?_)
  refine q_if_eq C (off := 7) 44 hm (by decide +kernel) (by decide) (fun _ hm => ?_) (fun _ hm => ?_)
  · refine q_iconst C (n := 0) (v := 0) (by decide) (by decide +kernel) ?_
    exact q_riS hm K q_z0 (by decide +kernel)
  · refine q_iconst C (n := 1) (v := 1) (by decide) (by decide +kernel) ?_
    refine q_goto C (off := 4) 45 (by decide +kernel) (by decide) ?_
    exact q_riS hm K q_z1 (by decide +kernel)
def m_X3_isNumber (h : q_H) (a0 : Nat) (a1 : Int32) (a2 : Int32) : Option (Int32 × q_H) :=
  (q_gi h a0 3 6).bind fun v1 =>
  if v1 = (601 : Int32) then
    (q_gi h a0 3 7).bind fun v2 =>
    if v2 < a1 then
      m_X3_isNumber_32 h a0
    else
      (q_gi h a0 3 7).bind fun v3 =>
      if v3 ≤ a2 then
        some ((1 : Int32), h)
      else
        m_X3_isNumber_32 h a0
  else
    (q_ca 3 h a0 (m_X3_refuse h a0 ((0 : Int32)))).bind fun (r4, h5) =>
    some (r4, h5)
set_option maxRecDepth 20000 in
set_option maxHeartbeats 1000000 in
theorem c_X3_isNumber (l : Launch) (base : Nat) (D : va_G) (tc : Nat → ClassId) (sz : Nat) (h : q_H) (a0 : Nat) (a1 : Int32) (a2 : Int32) {r : Int32} {h' : q_H} (hm : m_X3_isNumber h a0 a1 a2 = some (r, h')) : q_M l yX3_isNumber cX3_isNumber 3 (some .boolean) 1 21 0 0 base D tc [.ref a0, .int a1, .int a2] sz h (some (.int r)) sz h' := by
  refine q_starti (by decide) (Nat.le_of_ble_eq_true rfl) (fun Γ B K => ?_)
  obtain ⟨C, Rm, -⟩ := B
  have C : q_C Γ cX3_isNumber RX3 := C
  show q_V Γ sz 0 0 h [(0, .ref a0), (1, .int a1), (2, .int a2)] [] 0
  unfold m_X3_isNumber at hm
  refine q_aload_n C (k4 := 0) 0 rfl (by decide +kernel) ?_
  refine q_geti C fl_3_54 hm (by decide +kernel) (fun v1 hm => ?_)
  refine q_sipush C (n := 601) (v := 601) (by decide) (by decide +kernel) ?_
  refine q_icmp_eq C (off := 9) 16 hm (by decide +kernel) (by decide) (fun _ hm => ?_) (fun _ hm => ?_)
  · refine q_aload_n C (k4 := 0) 0 rfl (by decide +kernel) ?_
    refine q_geti C fl_3_57 hm (by decide +kernel) (fun v2 hm => ?_)
    refine q_iload_n C (k4 := 1) 1 rfl (by decide +kernel) ?_
    refine q_icmp_lt C (off := 11) 32 hm (by decide +kernel) (by decide) (fun _ hm => ?_) (fun _ hm => ?_)
    · refine q_loc [0] rfl ?_
      exact v_X3_isNumber_32 C Rm K _ _ hm
    · refine q_aload_n C (k4 := 0) 0 rfl (by decide +kernel) ?_
      refine q_geti C fl_3_57 hm (by decide +kernel) (fun v3 hm => ?_)
      refine q_iload_n C (k4 := 2) 2 rfl (by decide +kernel) ?_
      refine q_icmp_le C (off := 11) 40 hm (by decide +kernel) (by decide) (fun _ hm => ?_) (fun _ hm => ?_)
      · refine q_iconst C (n := 1) (v := 1) (by decide) (by decide +kernel) ?_
        refine q_goto C (off := 4) 45 (by decide +kernel) (by decide) ?_
        exact q_riS hm K q_z1 (by decide +kernel)
      · refine q_loc [0] rfl ?_
        exact v_X3_isNumber_32 C Rm K _ _ hm
  · refine q_aload_n C (k4 := 0) 0 rfl (by decide +kernel) ?_
    refine q_iconst C (n := 0) (v := 0) (by decide) (by decide +kernel) ?_
    refine q_viS C Rm (As := [.int ((0 : Int32))]) (rest := []) Y_X3_refuse Yv_X3_refuse ml_X3_82 (by decide) (by decide) hm (fun r4 h5 e9 => c_X3_refuse _ _ _ _ _ _ _ _ e9) rfl rfl (Nat.le_of_ble_eq_true rfl) (by decide +kernel) (fun r4 h5 hm z6 => ?_)
    exact q_riS hm K z6 (by decide +kernel)
def m_X3_goesOn (h : q_H) (a0 : Nat) : Option (Int32 × q_H) :=
  (q_gi h a0 3 6).bind fun v1 =>
  if v1 = (600 : Int32) then
    some ((0 : Int32), h)
  else
    (q_gi h a0 3 6).bind fun v2 =>
    if v2 = (59 : Int32) then
      (q_ca 3 h a0 (m_X3_next h a0)).bind fun h4 =>
      some ((1 : Int32), h4)
    else
      (q_ca 3 h a0 (m_X3_refuse h a0 ((0 : Int32)))).bind fun (r5, h6) =>
      some (r5, h6)
set_option maxRecDepth 20000 in
set_option maxHeartbeats 1000000 in
theorem c_X3_goesOn (l : Launch) (base : Nat) (D : va_G) (tc : Nat → ClassId) (sz : Nat) (h : q_H) (a0 : Nat) {r : Int32} {h' : q_H} (hm : m_X3_goesOn h a0 = some (r, h')) : q_M l yX3_goesOn cX3_goesOn 1 (some .boolean) 1 21 0 0 base D tc [.ref a0] sz h (some (.int r)) sz h' := by
  refine q_starti (by decide) (Nat.le_of_ble_eq_true rfl) (fun Γ B K => ?_)
  obtain ⟨C, Rm, -⟩ := B
  have C : q_C Γ cX3_goesOn RX3 := C
  show q_V Γ sz 0 0 h [(0, .ref a0)] [] 0
  unfold m_X3_goesOn at hm
  refine q_aload_n C (k4 := 0) 0 rfl (by decide +kernel) ?_
  refine q_geti C fl_3_54 hm (by decide +kernel) (fun v1 hm => ?_)
  refine q_sipush C (n := 600) (v := 600) (by decide) (by decide +kernel) ?_
  refine q_icmp_ne C (off := 5) 12 hm (by decide +kernel) (by decide) (fun _ hm => ?_) (fun _ hm => ?_)
  · refine q_aload_n C (k4 := 0) 0 rfl (by decide +kernel) ?_
    refine q_geti C fl_3_54 hm (by decide +kernel) (fun v2 hm => ?_)
    refine q_bipush C (n := 59) (v := 59) (by decide) (by decide +kernel) ?_
    refine q_icmp_eq C (off := 9) 27 hm (by decide +kernel) (by decide) (fun _ hm => ?_) (fun _ hm => ?_)
    · refine q_aload_n C (k4 := 0) 0 rfl (by decide +kernel) ?_
      refine q_vvS C Rm (As := []) (rest := []) Y_X3_next Yv_X3_next ml_X3_51 (by decide) (by decide) hm (fun h4 e9 => c_X3_next _ _ _ _ _ _ _ e9) rfl rfl (Nat.le_of_ble_eq_true rfl) (by decide +kernel) (fun h4 hm => ?_)
      refine q_iconst C (n := 1) (v := 1) (by decide) (by decide +kernel) ?_
      exact q_riS hm K q_z1 (by decide +kernel)
    · refine q_aload_n C (k4 := 0) 0 rfl (by decide +kernel) ?_
      refine q_iconst C (n := 0) (v := 0) (by decide) (by decide +kernel) ?_
      refine q_viS C Rm (As := [.int ((0 : Int32))]) (rest := []) Y_X3_refuse Yv_X3_refuse ml_X3_82 (by decide) (by decide) hm (fun r5 h6 e9 => c_X3_refuse _ _ _ _ _ _ _ _ e9) rfl rfl (Nat.le_of_ble_eq_true rfl) (by decide +kernel) (fun r5 h6 hm z7 => ?_)
      exact q_riS hm K z7 (by decide +kernel)
  · refine q_iconst C (n := 0) (v := 0) (by decide) (by decide +kernel) ?_
    exact q_riS hm K q_z0 (by decide +kernel)
def m_X4_copyFrom (h : q_H) (a0 : Nat) (a1 : Nat) : Option q_H :=
  (q_gi h a1 4 0).bind fun v1 =>
  (q_pf h a0 4 0 (.int v1)).bind fun h2 =>
  (q_gi h2 a1 4 1).bind fun v3 =>
  (q_pf h2 a0 4 1 (.int v3)).bind fun h4 =>
  (q_gi h4 a1 4 2).bind fun v5 =>
  (q_pf h4 a0 4 2 (.int v5)).bind fun h6 =>
  (q_gi h6 a1 4 3).bind fun v7 =>
  (q_pf h6 a0 4 3 (.int v7)).bind fun h8 =>
  (q_gn h8 a1 4 4).bind fun v9 =>
  (q_gn h8 a0 4 4).bind fun v10 =>
  (q_cp h8 v9 ((0 : Int32)) v10 ((0 : Int32)) ((8 : Int32))).bind fun h11 =>
  (q_gn h11 a1 4 5).bind fun v12 =>
  (q_gn h11 a0 4 5).bind fun v13 =>
  (q_cp h11 v12 ((0 : Int32)) v13 ((0 : Int32)) ((8 : Int32))).bind fun h14 =>
  (q_gn h14 a1 4 6).bind fun v15 =>
  (q_gn h14 a0 4 6).bind fun v16 =>
  (q_cp h14 v15 ((0 : Int32)) v16 ((0 : Int32)) ((8 : Int32))).bind fun h17 =>
  (q_gn h17 a1 4 7).bind fun v18 =>
  (q_gn h17 a0 4 7).bind fun v19 =>
  (q_cp h17 v18 ((0 : Int32)) v19 ((0 : Int32)) ((8 : Int32))).bind fun h20 =>
  some h20
set_option maxRecDepth 20000 in
set_option maxHeartbeats 1000000 in
theorem c_X4_copyFrom (l : Launch) (base : Nat) (D : va_G) (tc : Nat → ClassId) (sz : Nat) (h : q_H) (a0 : Nat) (a1 : Nat) {h' : q_H} (hm : m_X4_copyFrom h a0 a1 = some h') : q_M l yX4_copyFrom cX4_copyFrom 2 none 3 80 0 0 base D tc [.ref a0, .ref a1] sz h none sz h' := by
  refine q_startv (by decide) (Nat.le_of_ble_eq_true rfl) (fun Γ B K => ?_)
  obtain ⟨C, Rm, -⟩ := B
  have C : q_C Γ cX4_copyFrom RX4 := C
  show q_V Γ sz 0 0 h [(0, .ref a0), (1, .ref a1)] [] 0
  unfold m_X4_copyFrom at hm
  refine q_aload_n C (k4 := 0) 0 rfl (by decide +kernel) ?_
  refine q_aload_n C (k4 := 1) 1 rfl (by decide +kernel) ?_
  refine q_geti C fl_4_24 hm (by decide +kernel) (fun v1 hm => ?_)
  refine q_putf C fl_4_24 hm rfl rfl (by decide +kernel) (fun h2 hm => ?_)
  refine q_aload_n C (k4 := 0) 0 rfl (by decide +kernel) ?_
  refine q_aload_n C (k4 := 1) 1 rfl (by decide +kernel) ?_
  refine q_geti C fl_4_28 hm (by decide +kernel) (fun v3 hm => ?_)
  refine q_putf C fl_4_28 hm rfl rfl (by decide +kernel) (fun h4 hm => ?_)
  refine q_aload_n C (k4 := 0) 0 rfl (by decide +kernel) ?_
  refine q_aload_n C (k4 := 1) 1 rfl (by decide +kernel) ?_
  refine q_geti C fl_4_31 hm (by decide +kernel) (fun v5 hm => ?_)
  refine q_putf C fl_4_31 hm rfl rfl (by decide +kernel) (fun h6 hm => ?_)
  refine q_aload_n C (k4 := 0) 0 rfl (by decide +kernel) ?_
  refine q_aload_n C (k4 := 1) 1 rfl (by decide +kernel) ?_
  refine q_geti C fl_4_34 hm (by decide +kernel) (fun v7 hm => ?_)
  refine q_putf C fl_4_34 hm rfl rfl (by decide +kernel) (fun h8 hm => ?_)
  refine q_aload_n C (k4 := 1) 1 rfl (by decide +kernel) ?_
  refine q_getn C fl_4_9 hm (by decide +kernel) (fun v9 hm => ?_)
  refine q_iconst C (n := 0) (v := 0) (by decide) (by decide +kernel) ?_
  refine q_aload_n C (k4 := 0) 0 rfl (by decide +kernel) ?_
  refine q_getn C fl_4_9 hm (by decide +kernel) (fun v10 hm => ?_)
  refine q_iconst C (n := 0) (v := 0) (by decide) (by decide +kernel) ?_
  refine q_bipush C (n := 8) (v := 8) (by decide) (by decide +kernel) ?_
  refine q_copy C Rm ml_X4_37 cp_nat cp_stat cp_ini hm (by decide) (Nat.le_of_ble_eq_true rfl) (by decide +kernel) (fun h11 hm => ?_)
  refine q_aload_n C (k4 := 1) 1 rfl (by decide +kernel) ?_
  refine q_getn C fl_4_15 hm (by decide +kernel) (fun v12 hm => ?_)
  refine q_iconst C (n := 0) (v := 0) (by decide) (by decide +kernel) ?_
  refine q_aload_n C (k4 := 0) 0 rfl (by decide +kernel) ?_
  refine q_getn C fl_4_15 hm (by decide +kernel) (fun v13 hm => ?_)
  refine q_iconst C (n := 0) (v := 0) (by decide) (by decide +kernel) ?_
  refine q_bipush C (n := 8) (v := 8) (by decide) (by decide +kernel) ?_
  refine q_copy C Rm ml_X4_37 cp_nat cp_stat cp_ini hm (by decide) (Nat.le_of_ble_eq_true rfl) (by decide +kernel) (fun h14 hm => ?_)
  refine q_aload_n C (k4 := 1) 1 rfl (by decide +kernel) ?_
  refine q_getn C fl_4_18 hm (by decide +kernel) (fun v15 hm => ?_)
  refine q_iconst C (n := 0) (v := 0) (by decide) (by decide +kernel) ?_
  refine q_aload_n C (k4 := 0) 0 rfl (by decide +kernel) ?_
  refine q_getn C fl_4_18 hm (by decide +kernel) (fun v16 hm => ?_)
  refine q_iconst C (n := 0) (v := 0) (by decide) (by decide +kernel) ?_
  refine q_bipush C (n := 8) (v := 8) (by decide) (by decide +kernel) ?_
  refine q_copy C Rm ml_X4_37 cp_nat cp_stat cp_ini hm (by decide) (Nat.le_of_ble_eq_true rfl) (by decide +kernel) (fun h17 hm => ?_)
  refine q_aload_n C (k4 := 1) 1 rfl (by decide +kernel) ?_
  refine q_getn C fl_4_21 hm (by decide +kernel) (fun v18 hm => ?_)
  refine q_iconst C (n := 0) (v := 0) (by decide) (by decide +kernel) ?_
  refine q_aload_n C (k4 := 0) 0 rfl (by decide +kernel) ?_
  refine q_getn C fl_4_21 hm (by decide +kernel) (fun v19 hm => ?_)
  refine q_iconst C (n := 0) (v := 0) (by decide) (by decide +kernel) ?_
  refine q_bipush C (n := 8) (v := 8) (by decide) (by decide +kernel) ?_
  refine q_copy C Rm ml_X4_37 cp_nat cp_stat cp_ini hm (by decide) (Nat.le_of_ble_eq_true rfl) (by decide +kernel) (fun h20 hm => ?_)
  exact q_rvS hm K (by decide +kernel)
def m_X4_weightOf_30 (k4 : q_H → Nat → Int32 → Int32 → Int32 → Option Int32) (h0 : q_H) (x0 : Nat) (x1 : Int32) (x2 : Int32) (x3 : Int32) : Option Int32 :=
  k4 h0 x0 x1 x2 ((x3 + (1 : Int32)))
set_option maxRecDepth 20000 in
set_option maxHeartbeats 1000000 in
theorem v_X4_weightOf_30 {Γ : q_G} {sz : Nat} {h0 : q_H} {r : Int32} (C : q_C Γ cX4_weightOf RX4) (Rm : q_Rm Γ 4 0 0 0 0) {k4 : q_H → Nat → Int32 → Int32 → Int32 → Option Int32} (K : narrow .int (.int r) = .int r → q_K Γ cX4_weightOf .ireturn sz h0 0 0 [.int r]) (hk4 : ∀ (x0 : Nat) (x1 : Int32) (x2 : Int32) (x3 : Int32), k4 h0 x0 x1 x2 x3 = some r → q_V Γ sz 0 0 h0 [(0, .ref x0), (1, .int x1), (2, .int x2), (3, .int x3)] [] 4) : ∀ (x0 : Nat) (x1 : Int32) (x2 : Int32) (x3 : Int32), m_X4_weightOf_30 k4 h0 x0 x1 x2 x3 = some r → q_V Γ sz 0 0 h0 [(0, .ref x0), (1, .int x1), (2, .int x2), (3, .int x3)] [] 30 := by
  intro x0 x1 x2 x3 hm
  unfold m_X4_weightOf_30 at hm
  refine q_iinc C Rm.1 (i := 3) (n := 1) (v := (x3 + (1 : Int32))) 3 rfl (q_inc _ (by decide)) (lv' := [(3, .int ((x3 + (1 : Int32)))), (0, .ref x0), (1, .int x1), (2, .int x2)]) rfl (by decide) (by decide +kernel) ?_
  refine q_goto C (off := -29) 4 (by decide +kernel) (by decide) ?_
  refine q_loc [1, 2, 3, 0] rfl ?_
  exact hk4 _ _ _ _ hm
def m_X4_weightOf_4  : Nat → q_H → Nat → Int32 → Int32 → Int32 → Option Int32
  | 0, _, _, _, _, _ => none
  | n + 1, h0, x0, x1, x2, x3 =>
    (q_gi h0 x0 4 3).bind fun v1 =>
    if v1 ≤ x3 then
      some x2
    else
      if ((x1 >>> (x3 &&& 31)) &&& (1 : Int32)) = (1 : Int32) then
        (q_gn h0 x0 4 5).bind fun v2 =>
        (q_ai h0 v2 1 x3).bind fun v3 =>
        m_X4_weightOf_30 (m_X4_weightOf_4 n) h0 x0 x1 ((x2 + v3)) x3
      else
        m_X4_weightOf_30 (m_X4_weightOf_4 n) h0 x0 x1 x2 x3
set_option maxRecDepth 20000 in
set_option maxHeartbeats 1000000 in
theorem v_X4_weightOf_4 {Γ : q_G} {sz : Nat} {h0 : q_H} {r : Int32} (C : q_C Γ cX4_weightOf RX4) (Rm : q_Rm Γ 4 0 0 0 0)  (K : narrow .int (.int r) = .int r → q_K Γ cX4_weightOf .ireturn sz h0 0 0 [.int r])  : ∀ (n : Nat) (x0 : Nat) (x1 : Int32) (x2 : Int32) (x3 : Int32), m_X4_weightOf_4 n h0 x0 x1 x2 x3 = some r → q_V Γ sz 0 0 h0 [(0, .ref x0), (1, .int x1), (2, .int x2), (3, .int x3)] [] 4 := by
  intro n
  induction n with
  | zero => intro x0 x1 x2 x3 hm; cases hm
  | succ n ih =>
    intro x0 x1 x2 x3 hm
    unfold m_X4_weightOf_4 at hm
    refine q_iload_n C (k4 := 3) 3 rfl (by decide +kernel) ?_
    refine q_aload_n C (k4 := 0) 0 rfl (by decide +kernel) ?_
    refine q_geti C fl_4_34 hm (by decide +kernel) (fun v1 hm => ?_)
    refine q_icmp_ge C (off := 27) 36 hm (by decide +kernel) (by decide) (fun _ hm => ?_) (fun _ hm => ?_)
    · refine q_iload_n C (k4 := 2) 2 rfl (by decide +kernel) ?_
      exact q_riP hm K rfl (by decide +kernel)
    · refine q_iload_n C (k4 := 1) 1 rfl (by decide +kernel) ?_
      refine q_iload_n C (k4 := 3) 3 rfl (by decide +kernel) ?_
      refine q_ishr C (by decide +kernel) ?_
      refine q_iconst C (n := 1) (v := 1) (by decide) (by decide +kernel) ?_
      refine q_iand C (by decide +kernel) ?_
      refine q_iconst C (n := 1) (v := 1) (by decide) (by decide +kernel) ?_
      refine q_icmp_ne C (off := 12) 30 hm (by decide +kernel) (by decide) (fun _ hm => ?_) (fun _ hm => ?_)
      · exact v_X4_weightOf_30 C Rm K ih _ _ _ _ hm
      · refine q_iload_n C (k4 := 2) 2 rfl (by decide +kernel) ?_
        refine q_aload_n C (k4 := 0) 0 rfl (by decide +kernel) ?_
        refine q_getn C fl_4_15 hm (by decide +kernel) (fun v2 hm => ?_)
        refine q_iload_n C (k4 := 3) 3 rfl (by decide +kernel) ?_
        refine q_ir C hm (by decide +kernel) (fun v3 hm => ?_)
        refine q_iadd C (by decide +kernel) ?_
        refine q_istore_n C Rm.1 (k4 := 2) (i := 2) rfl (lv' := [(2, .int ((x2 + v3))), (0, .ref x0), (1, .int x1), (3, .int x3)]) rfl (by decide) (by decide +kernel) ?_
        refine q_loc [1, 2, 0, 3] rfl ?_
        exact v_X4_weightOf_30 C Rm K ih _ _ _ _ hm
def m_X4_weightOf (h0 : q_H) (a0 : Nat) (a1 : Int32) : Option Int32 :=
  m_X4_weightOf_4 q_fu h0 a0 a1 ((0 : Int32)) ((0 : Int32))
set_option maxRecDepth 20000 in
set_option maxHeartbeats 1000000 in
theorem c_X4_weightOf (l : Launch) (base : Nat) (D : va_G) (tc : Nat → ClassId) (sz : Nat) (h0 : q_H) (a0 : Nat) (a1 : Int32) {r : Int32} (hm : m_X4_weightOf h0 a0 a1 = some r) : q_M l yX4_weightOf cX4_weightOf 4 (some .int) 0 0 0 0 base D tc [.ref a0, .int a1] sz h0 (some (.int r)) sz h0 := by
  refine q_starti (by decide) (Nat.le_of_ble_eq_true rfl) (fun Γ B K => ?_)
  obtain ⟨C, Rm, -⟩ := B
  have C : q_C Γ cX4_weightOf RX4 := C
  show q_V Γ sz 0 0 h0 [(0, .ref a0), (1, .int a1)] [] 0
  unfold m_X4_weightOf at hm
  refine q_iconst C (n := 0) (v := 0) (by decide) (by decide +kernel) ?_
  refine q_istore_n C Rm.1 (k4 := 2) (i := 2) rfl (lv' := [(2, .int ((0 : Int32))), (0, .ref a0), (1, .int a1)]) rfl (by decide) (by decide +kernel) ?_
  refine q_iconst C (n := 0) (v := 0) (by decide) (by decide +kernel) ?_
  refine q_istore_n C Rm.1 (k4 := 3) (i := 3) rfl (lv' := [(3, .int ((0 : Int32))), (2, .int ((0 : Int32))), (0, .ref a0), (1, .int a1)]) rfl (by decide) (by decide +kernel) ?_
  refine q_loc [2, 3, 1, 0] rfl ?_
  exact v_X4_weightOf_4 C Rm K _ _ _ _ _ hm
def m_X4_differenceBy (h0 : q_H) (a0 : Nat) (a1 : Int32) : Option Int32 :=
  (q_ca 4 h0 a0 (m_X4_everyone h0 a0)).bind fun r1 =>
  (q_ca 4 h0 a0 (m_X4_weightOf h0 a0 r1)).bind fun r3 =>
  (q_ca 4 h0 a0 (m_X4_weightOf h0 a0 a1)).bind fun r5 =>
  some ((if 0 ≤ (r3 - ((2 : Int32) * r5)) then (r3 - ((2 : Int32) * r5)) else 0 - (r3 - ((2 : Int32) * r5))))
set_option maxRecDepth 20000 in
set_option maxHeartbeats 1000000 in
theorem c_X4_differenceBy (l : Launch) (base : Nat) (D : va_G) (tc : Nat → ClassId) (sz : Nat) (h0 : q_H) (a0 : Nat) (a1 : Int32) {r : Int32} (hm : m_X4_differenceBy h0 a0 a1 = some r) : q_M l yX4_differenceBy cX4_differenceBy 2 (some .int) 3 80 0 0 base D tc [.ref a0, .int a1] sz h0 (some (.int r)) sz h0 := by
  refine q_starti (by decide) (Nat.le_of_ble_eq_true rfl) (fun Γ B K => ?_)
  obtain ⟨C, Rm, -⟩ := B
  have C : q_C Γ cX4_differenceBy RX4 := C
  show q_V Γ sz 0 0 h0 [(0, .ref a0), (1, .int a1)] [] 0
  unfold m_X4_differenceBy at hm
  refine q_aload_n C (k4 := 0) 0 rfl (by decide +kernel) ?_
  refine q_aload_n C (k4 := 0) 0 rfl (by decide +kernel) ?_
  refine q_viP C Rm (As := []) (rest := [.ref a0]) Y_X4_everyone Yv_X4_everyone ml_X4_43 (by decide) (by decide) hm (fun r9 e9 => c_X4_everyone _ _ _ _ _ _ _ e9) rfl rfl (Nat.le_of_ble_eq_true rfl) (by decide +kernel) (fun r1 hm z2 => ?_)
  refine q_viP C Rm (As := [.int r1]) (rest := []) Y_X4_weightOf Yv_X4_weightOf ml_X4_47 (by decide) (by decide) hm (fun r9 e9 => c_X4_weightOf _ _ _ _ _ _ _ _ e9) rfl rfl (Nat.le_of_ble_eq_true rfl) (by decide +kernel) (fun r3 hm z4 => ?_)
  refine q_iconst C (n := 2) (v := 2) (by decide) (by decide +kernel) ?_
  refine q_aload_n C (k4 := 0) 0 rfl (by decide +kernel) ?_
  refine q_iload_n C (k4 := 1) 1 rfl (by decide +kernel) ?_
  refine q_viP C Rm (As := [.int a1]) (rest := [.int ((2 : Int32)), .int r3]) Y_X4_weightOf Yv_X4_weightOf ml_X4_47 (by decide) (by decide) hm (fun r9 e9 => c_X4_weightOf _ _ _ _ _ _ _ _ e9) rfl rfl (Nat.le_of_ble_eq_true rfl) (by decide +kernel) (fun r5 hm z6 => ?_)
  refine q_imul C (by decide +kernel) ?_
  refine q_isub C (by decide +kernel) ?_
  refine q_mabs C Rm ml_X4_51 (by decide) (Nat.le_of_ble_eq_true rfl) ⟨Nat.le_refl _, Nat.le_refl _⟩ (by decide +kernel) ?_
  exact q_riP hm K rfl (by decide +kernel)
def m_X4_outweighs (h0 : q_H) (a0 : Nat) (a1 : Int32) : Option Int32 :=
  (q_ca 4 h0 a0 (m_X4_weightOf h0 a0 a1)).bind fun r1 =>
  (q_ca 4 h0 a0 (m_X4_everyone h0 a0)).bind fun r3 =>
  (q_ca 4 h0 a0 (m_X4_weightOf h0 a0 r3)).bind fun r5 =>
  if ((2 : Int32) * r1) ≤ r5 then
    some ((0 : Int32))
  else
    some ((1 : Int32))
set_option maxRecDepth 20000 in
set_option maxHeartbeats 1000000 in
theorem c_X4_outweighs (l : Launch) (base : Nat) (D : va_G) (tc : Nat → ClassId) (sz : Nat) (h0 : q_H) (a0 : Nat) (a1 : Int32) {r : Int32} (hm : m_X4_outweighs h0 a0 a1 = some r) : q_M l yX4_outweighs cX4_outweighs 2 (some .boolean) 1 23 0 0 base D tc [.ref a0, .int a1] sz h0 (some (.int r)) sz h0 := by
  refine q_starti (by decide) (Nat.le_of_ble_eq_true rfl) (fun Γ B K => ?_)
  obtain ⟨C, Rm, -⟩ := B
  have C : q_C Γ cX4_outweighs RX4 := C
  show q_V Γ sz 0 0 h0 [(0, .ref a0), (1, .int a1)] [] 0
  unfold m_X4_outweighs at hm
  refine q_iconst C (n := 2) (v := 2) (by decide) (by decide +kernel) ?_
  refine q_aload_n C (k4 := 0) 0 rfl (by decide +kernel) ?_
  refine q_iload_n C (k4 := 1) 1 rfl (by decide +kernel) ?_
  refine q_viP C Rm (As := [.int a1]) (rest := [.int ((2 : Int32))]) Y_X4_weightOf Yv_X4_weightOf ml_X4_47 (by decide) (by decide) hm (fun r9 e9 => c_X4_weightOf _ _ _ _ _ _ _ _ e9) rfl rfl (Nat.le_of_ble_eq_true rfl) (by decide +kernel) (fun r1 hm z2 => ?_)
  refine q_imul C (by decide +kernel) ?_
  refine q_aload_n C (k4 := 0) 0 rfl (by decide +kernel) ?_
  refine q_aload_n C (k4 := 0) 0 rfl (by decide +kernel) ?_
  refine q_viP C Rm (As := []) (rest := [.ref a0, .int (((2 : Int32) * r1))]) Y_X4_everyone Yv_X4_everyone ml_X4_43 (by decide) (by decide) hm (fun r9 e9 => c_X4_everyone _ _ _ _ _ _ _ e9) rfl rfl (Nat.le_of_ble_eq_true rfl) (by decide +kernel) (fun r3 hm z4 => ?_)
  refine q_viP C Rm (As := [.int r3]) (rest := [.int (((2 : Int32) * r1))]) Y_X4_weightOf Yv_X4_weightOf ml_X4_47 (by decide) (by decide) hm (fun r9 e9 => c_X4_weightOf _ _ _ _ _ _ _ _ e9) rfl rfl (Nat.le_of_ble_eq_true rfl) (by decide +kernel) (fun r5 hm z6 => ?_)
  refine q_icmp_le C (off := 7) 22 hm (by decide +kernel) (by decide) (fun _ hm => ?_) (fun _ hm => ?_)
  · refine q_iconst C (n := 0) (v := 0) (by decide) (by decide +kernel) ?_
    exact q_riP hm K q_z0 (by decide +kernel)
  · refine q_iconst C (n := 1) (v := 1) (by decide) (by decide +kernel) ?_
    refine q_goto C (off := 4) 23 (by decide +kernel) (by decide) ?_
    exact q_riP hm K q_z1 (by decide +kernel)
def m_X4_fairestSet_36 (k10 : q_H → Nat → Int32 → Int32 → Int32 → Option Int32) (h0 : q_H) (x0 : Nat) (x1 : Int32) (x2 : Int32) (x3 : Int32) : Option Int32 :=
  k10 h0 x0 x1 x2 ((x3 + (1 : Int32)))
set_option maxRecDepth 20000 in
set_option maxHeartbeats 1000000 in
theorem v_X4_fairestSet_36 {Γ : q_G} {sz : Nat} {h0 : q_H} {r : Int32} (C : q_C Γ cX4_fairestSet RX4) (Rm : q_Rm Γ 5 4 101 0 0) {k10 : q_H → Nat → Int32 → Int32 → Int32 → Option Int32} (K : narrow .int (.int r) = .int r → q_K Γ cX4_fairestSet .ireturn sz h0 0 0 [.int r]) (hk10 : ∀ (x0 : Nat) (x1 : Int32) (x2 : Int32) (x3 : Int32), k10 h0 x0 x1 x2 x3 = some r → q_V Γ sz 0 0 h0 [(0, .ref x0), (1, .int x1), (2, .int x2), (3, .int x3)] [] 10) : ∀ (x0 : Nat) (x1 : Int32) (x2 : Int32) (x3 : Int32), m_X4_fairestSet_36 k10 h0 x0 x1 x2 x3 = some r → q_V Γ sz 0 0 h0 [(0, .ref x0), (1, .int x1), (2, .int x2), (3, .int x3)] [] 36 := by
  intro x0 x1 x2 x3 hm
  unfold m_X4_fairestSet_36 at hm
  refine q_iinc C Rm.1 (i := 3) (n := 1) (v := (x3 + (1 : Int32))) 3 rfl (q_inc _ (by decide)) (lv' := [(3, .int ((x3 + (1 : Int32)))), (0, .ref x0), (1, .int x1), (2, .int x2)]) rfl (by decide) (by decide +kernel) ?_
  refine q_goto C (off := -29) 10 (by decide +kernel) (by decide) ?_
  refine q_loc [1, 2, 3, 0] rfl ?_
  exact hk10 _ _ _ _ hm
def m_X4_fairestSet_10  : Nat → q_H → Nat → Int32 → Int32 → Int32 → Option Int32
  | 0, _, _, _, _, _ => none
  | n + 1, h0, x0, x1, x2, x3 =>
    (q_ca 4 h0 x0 (m_X4_everyone h0 x0)).bind fun r3 =>
    if r3 < x3 then
      some x1
    else
      (q_ca 4 h0 x0 (m_X4_differenceBy h0 x0 x3)).bind fun r5 =>
      if x2 ≤ r5 then
        m_X4_fairestSet_36 (m_X4_fairestSet_10 n) h0 x0 x1 x2 x3
      else
        m_X4_fairestSet_36 (m_X4_fairestSet_10 n) h0 x0 x3 r5 x3
set_option maxRecDepth 20000 in
set_option maxHeartbeats 1000000 in
theorem v_X4_fairestSet_10 {Γ : q_G} {sz : Nat} {h0 : q_H} {r : Int32} (C : q_C Γ cX4_fairestSet RX4) (Rm : q_Rm Γ 5 4 101 0 0)  (K : narrow .int (.int r) = .int r → q_K Γ cX4_fairestSet .ireturn sz h0 0 0 [.int r])  : ∀ (n : Nat) (x0 : Nat) (x1 : Int32) (x2 : Int32) (x3 : Int32), m_X4_fairestSet_10 n h0 x0 x1 x2 x3 = some r → q_V Γ sz 0 0 h0 [(0, .ref x0), (1, .int x1), (2, .int x2), (3, .int x3)] [] 10 := by
  intro n
  induction n with
  | zero => intro x0 x1 x2 x3 hm; cases hm
  | succ n ih =>
    intro x0 x1 x2 x3 hm
    unfold m_X4_fairestSet_10 at hm
    refine q_iload_n C (k4 := 3) 3 rfl (by decide +kernel) ?_
    refine q_aload_n C (k4 := 0) 0 rfl (by decide +kernel) ?_
    refine q_viP C Rm (As := []) (rest := [.int x3]) Y_X4_everyone Yv_X4_everyone ml_X4_43 (by decide) (by decide) hm (fun r9 e9 => c_X4_everyone _ _ _ _ _ _ _ e9) rfl rfl (Nat.le_of_ble_eq_true rfl) (by decide +kernel) (fun r3 hm z4 => ?_)
    refine q_icmp_gt C (off := 27) 42 hm (by decide +kernel) (by decide) (fun _ hm => ?_) (fun _ hm => ?_)
    · refine q_iload_n C (k4 := 1) 1 rfl (by decide +kernel) ?_
      exact q_riP hm K rfl (by decide +kernel)
    · refine q_aload_n C (k4 := 0) 0 rfl (by decide +kernel) ?_
      refine q_iload_n C (k4 := 3) 3 rfl (by decide +kernel) ?_
      refine q_viP C Rm (As := [.int x3]) (rest := []) Y_X4_differenceBy Yv_X4_differenceBy ml_X4_56 (by decide) (by decide) hm (fun r9 e9 => c_X4_differenceBy _ _ _ _ _ _ _ _ e9) rfl rfl (Nat.le_of_ble_eq_true rfl) (by decide +kernel) (fun r5 hm z6 => ?_)
      refine q_istore C Rm.1 (i := 4) (lv' := [(4, .int r5), (0, .ref x0), (1, .int x1), (2, .int x2), (3, .int x3)]) rfl (by decide) (by decide +kernel) ?_
      refine q_iload C (i := 4) 0 rfl (by decide +kernel) ?_
      refine q_iload_n C (k4 := 2) 3 rfl (by decide +kernel) ?_
      refine q_icmp_ge C (off := 8) 36 hm (by decide +kernel) (by decide) (fun _ hm => ?_) (fun _ hm => ?_)
      · refine q_loc [1, 2, 3, 4] rfl ?_
        exact v_X4_fairestSet_36 C Rm K ih _ _ _ _ hm
      · refine q_iload C (i := 4) 0 rfl (by decide +kernel) ?_
        refine q_istore_n C Rm.1 (k4 := 2) (i := 2) rfl (lv' := [(2, .int r5), (4, .int r5), (0, .ref x0), (1, .int x1), (3, .int x3)]) rfl (by decide) (by decide +kernel) ?_
        refine q_iload_n C (k4 := 3) 4 rfl (by decide +kernel) ?_
        refine q_istore_n C Rm.1 (k4 := 1) (i := 1) rfl (lv' := [(1, .int x3), (2, .int r5), (4, .int r5), (0, .ref x0), (3, .int x3)]) rfl (by decide) (by decide +kernel) ?_
        refine q_loc [3, 0, 1, 4] rfl ?_
        exact v_X4_fairestSet_36 C Rm K ih _ _ _ _ hm
def m_X4_fairestSet (h0 : q_H) (a0 : Nat) : Option Int32 :=
  (q_ca 4 h0 a0 (m_X4_differenceBy h0 a0 ((0 : Int32)))).bind fun r1 =>
  m_X4_fairestSet_10 q_fu h0 a0 ((0 : Int32)) r1 ((1 : Int32))
set_option maxRecDepth 20000 in
set_option maxHeartbeats 1000000 in
theorem c_X4_fairestSet (l : Launch) (base : Nat) (D : va_G) (tc : Nat → ClassId) (sz : Nat) (h0 : q_H) (a0 : Nat) {r : Int32} (hm : m_X4_fairestSet h0 a0 = some r) : q_M l yX4_fairestSet cX4_fairestSet 5 (some .int) 4 101 0 0 base D tc [.ref a0] sz h0 (some (.int r)) sz h0 := by
  refine q_starti (by decide) (Nat.le_of_ble_eq_true rfl) (fun Γ B K => ?_)
  obtain ⟨C, Rm, -⟩ := B
  have C : q_C Γ cX4_fairestSet RX4 := C
  show q_V Γ sz 0 0 h0 [(0, .ref a0)] [] 0
  unfold m_X4_fairestSet at hm
  refine q_iconst C (n := 0) (v := 0) (by decide) (by decide +kernel) ?_
  refine q_istore_n C Rm.1 (k4 := 1) (i := 1) rfl (lv' := [(1, .int ((0 : Int32))), (0, .ref a0)]) rfl (by decide) (by decide +kernel) ?_
  refine q_aload_n C (k4 := 0) 1 rfl (by decide +kernel) ?_
  refine q_iconst C (n := 0) (v := 0) (by decide) (by decide +kernel) ?_
  refine q_viP C Rm (As := [.int ((0 : Int32))]) (rest := []) Y_X4_differenceBy Yv_X4_differenceBy ml_X4_56 (by decide) (by decide) hm (fun r9 e9 => c_X4_differenceBy _ _ _ _ _ _ _ _ e9) rfl rfl (Nat.le_of_ble_eq_true rfl) (by decide +kernel) (fun r1 hm z2 => ?_)
  refine q_istore_n C Rm.1 (k4 := 2) (i := 2) rfl (lv' := [(2, .int r1), (1, .int ((0 : Int32))), (0, .ref a0)]) rfl (by decide) (by decide +kernel) ?_
  refine q_iconst C (n := 1) (v := 1) (by decide) (by decide +kernel) ?_
  refine q_istore_n C Rm.1 (k4 := 3) (i := 3) rfl (lv' := [(3, .int ((1 : Int32))), (2, .int r1), (1, .int ((0 : Int32))), (0, .ref a0)]) rfl (by decide) (by decide +kernel) ?_
  refine q_loc [3, 2, 1, 0] rfl ?_
  exact v_X4_fairestSet_10 C Rm K _ _ _ _ _ hm
def m_X4_smallestSet_35 (k10 : q_H → Nat → Int32 → Int32 → Option Int32) (h0 : q_H) (x0 : Nat) (x1 : Int32) (x2 : Int32) : Option Int32 :=
  k10 h0 x0 x1 ((x2 + (-1 : Int32)))
set_option maxRecDepth 20000 in
set_option maxHeartbeats 1000000 in
theorem v_X4_smallestSet_35 {Γ : q_G} {sz : Nat} {h0 : q_H} {r : Int32} (C : q_C Γ cX4_smallestSet RX4) (Rm : q_Rm Γ 3 2 44 0 0) {k10 : q_H → Nat → Int32 → Int32 → Option Int32} (K : narrow .int (.int r) = .int r → q_K Γ cX4_smallestSet .ireturn sz h0 0 0 [.int r]) (hk10 : ∀ (x0 : Nat) (x1 : Int32) (x2 : Int32), k10 h0 x0 x1 x2 = some r → q_V Γ sz 0 0 h0 [(0, .ref x0), (1, .int x1), (2, .int x2)] [] 10) : ∀ (x0 : Nat) (x1 : Int32) (x2 : Int32), m_X4_smallestSet_35 k10 h0 x0 x1 x2 = some r → q_V Γ sz 0 0 h0 [(0, .ref x0), (1, .int x1), (2, .int x2)] [] 35 := by
  intro x0 x1 x2 hm
  unfold m_X4_smallestSet_35 at hm
  refine q_iinc C Rm.1 (i := 2) (n := (-1)) (v := (x2 + (-1 : Int32))) 2 rfl (q_inc _ (by decide)) (lv' := [(2, .int ((x2 + (-1 : Int32)))), (0, .ref x0), (1, .int x1)]) rfl (by decide) (by decide +kernel) ?_
  refine q_goto C (off := -28) 10 (by decide +kernel) (by decide) ?_
  refine q_loc [1, 2, 0] rfl ?_
  exact hk10 _ _ _ hm
def m_X4_smallestSet_10  : Nat → q_H → Nat → Int32 → Int32 → Option Int32
  | 0, _, _, _, _ => none
  | n + 1, h0, x0, x1, x2 =>
    if x2 < 0 then
      some x1
    else
      (m_J6_bitCount_0f7a4 x2).bind fun r5 =>
      (m_J6_bitCount_0f7a4 x1).bind fun r7 =>
      if r7 < r5 then
        m_X4_smallestSet_35 (m_X4_smallestSet_10 n) h0 x0 x1 x2
      else
        (q_ca 4 h0 x0 (m_X4_outweighs h0 x0 x2)).bind fun r9 =>
        if r9 = 0 then
          m_X4_smallestSet_35 (m_X4_smallestSet_10 n) h0 x0 x1 x2
        else
          m_X4_smallestSet_35 (m_X4_smallestSet_10 n) h0 x0 x2 x2
set_option maxRecDepth 20000 in
set_option maxHeartbeats 1000000 in
theorem v_X4_smallestSet_10 {Γ : q_G} {sz : Nat} {h0 : q_H} {r : Int32} (C : q_C Γ cX4_smallestSet RX4) (Rm : q_Rm Γ 3 2 44 0 0)  (K : narrow .int (.int r) = .int r → q_K Γ cX4_smallestSet .ireturn sz h0 0 0 [.int r])  : ∀ (n : Nat) (x0 : Nat) (x1 : Int32) (x2 : Int32), m_X4_smallestSet_10 n h0 x0 x1 x2 = some r → q_V Γ sz 0 0 h0 [(0, .ref x0), (1, .int x1), (2, .int x2)] [] 10 := by
  intro n
  induction n with
  | zero => intro x0 x1 x2 hm; cases hm
  | succ n ih =>
    intro x0 x1 x2 hm
    unfold m_X4_smallestSet_10 at hm
    refine q_iload_n C (k4 := 2) 2 rfl (by decide +kernel) ?_
    refine q_if_lt C (off := 30) 41 hm (by decide +kernel) (by decide) (fun _ hm => ?_) (fun _ hm => ?_)
    · refine q_iload_n C (k4 := 1) 1 rfl (by decide +kernel) ?_
      exact q_riP hm K rfl (by decide +kernel)
    · refine q_iload_n C (k4 := 2) 2 rfl (by decide +kernel) ?_
      refine q_siP C Rm (As := [.int x2]) (rest := []) Y_J6_bitCount_0f7a4 Ys_J6_bitCount_0f7a4 ml_X4_63 (by decide) (by decide) hm (fun r9 e9 => c_J6_bitCount_0f7a4 _ _ _ _ _ _ _ e9) rfl rfl (Nat.le_of_ble_eq_true rfl) (by decide +kernel) (fun r5 hm z6 => ?_)
      refine q_iload_n C (k4 := 1) 1 rfl (by decide +kernel) ?_
      refine q_siP C Rm (As := [.int x1]) (rest := [.int r5]) Y_J6_bitCount_0f7a4 Ys_J6_bitCount_0f7a4 ml_X4_63 (by decide) (by decide) hm (fun r9 e9 => c_J6_bitCount_0f7a4 _ _ _ _ _ _ _ e9) rfl rfl (Nat.le_of_ble_eq_true rfl) (by decide +kernel) (fun r7 hm z8 => ?_)
      refine q_icmp_gt C (off := 13) 35 hm (by decide +kernel) (by decide) (fun _ hm => ?_) (fun _ hm => ?_)
      · exact v_X4_smallestSet_35 C Rm K ih _ _ _ hm
      · refine q_aload_n C (k4 := 0) 0 rfl (by decide +kernel) ?_
        refine q_iload_n C (k4 := 2) 2 rfl (by decide +kernel) ?_
        refine q_viP C Rm (As := [.int x2]) (rest := []) Y_X4_outweighs Yv_X4_outweighs ml_X4_59 (by decide) (by decide) hm (fun r9 e9 => c_X4_outweighs _ _ _ _ _ _ _ _ e9) rfl rfl (Nat.le_of_ble_eq_true rfl) (by decide +kernel) (fun r9 hm z10 => ?_)
        refine q_if_eq C (off := 5) 35 hm (by decide +kernel) (by decide) (fun _ hm => ?_) (fun _ hm => ?_)
        · exact v_X4_smallestSet_35 C Rm K ih _ _ _ hm
        · refine q_iload_n C (k4 := 2) 2 rfl (by decide +kernel) ?_
          refine q_istore_n C Rm.1 (k4 := 1) (i := 1) rfl (lv' := [(1, .int x2), (0, .ref x0), (2, .int x2)]) rfl (by decide) (by decide +kernel) ?_
          refine q_loc [1, 0, 2] rfl ?_
          exact v_X4_smallestSet_35 C Rm K ih _ _ _ hm
def m_X4_smallestSet (h0 : q_H) (a0 : Nat) : Option Int32 :=
  (q_ca 4 h0 a0 (m_X4_everyone h0 a0)).bind fun r1 =>
  (q_ca 4 h0 a0 (m_X4_everyone h0 a0)).bind fun r3 =>
  m_X4_smallestSet_10 q_fu h0 a0 r1 r3
set_option maxRecDepth 20000 in
set_option maxHeartbeats 1000000 in
theorem c_X4_smallestSet (l : Launch) (base : Nat) (D : va_G) (tc : Nat → ClassId) (sz : Nat) (h0 : q_H) (a0 : Nat) {r : Int32} (hm : m_X4_smallestSet h0 a0 = some r) : q_M l yX4_smallestSet cX4_smallestSet 3 (some .int) 2 44 0 0 base D tc [.ref a0] sz h0 (some (.int r)) sz h0 := by
  refine q_starti (by decide) (Nat.le_of_ble_eq_true rfl) (fun Γ B K => ?_)
  obtain ⟨C, Rm, -⟩ := B
  have C : q_C Γ cX4_smallestSet RX4 := C
  show q_V Γ sz 0 0 h0 [(0, .ref a0)] [] 0
  unfold m_X4_smallestSet at hm
  refine q_aload_n C (k4 := 0) 0 rfl (by decide +kernel) ?_
  refine q_viP C Rm (As := []) (rest := []) Y_X4_everyone Yv_X4_everyone ml_X4_43 (by decide) (by decide) hm (fun r9 e9 => c_X4_everyone _ _ _ _ _ _ _ e9) rfl rfl (Nat.le_of_ble_eq_true rfl) (by decide +kernel) (fun r1 hm z2 => ?_)
  refine q_istore_n C Rm.1 (k4 := 1) (i := 1) rfl (lv' := [(1, .int r1), (0, .ref a0)]) rfl (by decide) (by decide +kernel) ?_
  refine q_aload_n C (k4 := 0) 1 rfl (by decide +kernel) ?_
  refine q_viP C Rm (As := []) (rest := []) Y_X4_everyone Yv_X4_everyone ml_X4_43 (by decide) (by decide) hm (fun r9 e9 => c_X4_everyone _ _ _ _ _ _ _ e9) rfl rfl (Nat.le_of_ble_eq_true rfl) (by decide +kernel) (fun r3 hm z4 => ?_)
  refine q_istore_n C Rm.1 (k4 := 2) (i := 2) rfl (lv' := [(2, .int r3), (1, .int r1), (0, .ref a0)]) rfl (by decide) (by decide +kernel) ?_
  refine q_loc [2, 1, 0] rfl ?_
  exact v_X4_smallestSet_10 C Rm K _ _ _ _ hm
def m_X4_neededSet_35 (k4 : q_H → Nat → Int32 → Int32 → Option Int32) (h0 : q_H) (x0 : Nat) (x1 : Int32) (x2 : Int32) : Option Int32 :=
  k4 h0 x0 x1 ((x2 + (1 : Int32)))
set_option maxRecDepth 20000 in
set_option maxHeartbeats 1000000 in
theorem v_X4_neededSet_35 {Γ : q_G} {sz : Nat} {h0 : q_H} {r : Int32} (C : q_C Γ cX4_neededSet RX4) (Rm : q_Rm Γ 3 2 44 0 0) {k4 : q_H → Nat → Int32 → Int32 → Option Int32} (K : narrow .int (.int r) = .int r → q_K Γ cX4_neededSet .ireturn sz h0 0 0 [.int r]) (hk4 : ∀ (x0 : Nat) (x1 : Int32) (x2 : Int32), k4 h0 x0 x1 x2 = some r → q_V Γ sz 0 0 h0 [(0, .ref x0), (1, .int x1), (2, .int x2)] [] 4) : ∀ (x0 : Nat) (x1 : Int32) (x2 : Int32), m_X4_neededSet_35 k4 h0 x0 x1 x2 = some r → q_V Γ sz 0 0 h0 [(0, .ref x0), (1, .int x1), (2, .int x2)] [] 35 := by
  intro x0 x1 x2 hm
  unfold m_X4_neededSet_35 at hm
  refine q_iinc C Rm.1 (i := 2) (n := 1) (v := (x2 + (1 : Int32))) 2 rfl (q_inc _ (by decide)) (lv' := [(2, .int ((x2 + (1 : Int32)))), (0, .ref x0), (1, .int x1)]) rfl (by decide) (by decide +kernel) ?_
  refine q_goto C (off := -34) 4 (by decide +kernel) (by decide) ?_
  refine q_loc [1, 2, 0] rfl ?_
  exact hk4 _ _ _ hm
def m_X4_neededSet_4  : Nat → q_H → Nat → Int32 → Int32 → Option Int32
  | 0, _, _, _, _ => none
  | n + 1, h0, x0, x1, x2 =>
    (q_gi h0 x0 4 3).bind fun v1 =>
    if v1 ≤ x2 then
      some x1
    else
      (q_ca 4 h0 x0 (m_X4_everyone h0 x0)).bind fun r2 =>
      (q_ca 4 h0 x0 (m_X4_outweighs h0 x0 ((r2 &&& (((1 : Int32) <<< (x2 &&& 31)) ^^^ (-1 : Int32)))))).bind fun r4 =>
      if r4 = 0 then
        m_X4_neededSet_35 (m_X4_neededSet_4 n) h0 x0 ((x1 ||| ((1 : Int32) <<< (x2 &&& 31)))) x2
      else
        m_X4_neededSet_35 (m_X4_neededSet_4 n) h0 x0 x1 x2
set_option maxRecDepth 20000 in
set_option maxHeartbeats 1000000 in
theorem v_X4_neededSet_4 {Γ : q_G} {sz : Nat} {h0 : q_H} {r : Int32} (C : q_C Γ cX4_neededSet RX4) (Rm : q_Rm Γ 3 2 44 0 0)  (K : narrow .int (.int r) = .int r → q_K Γ cX4_neededSet .ireturn sz h0 0 0 [.int r])  : ∀ (n : Nat) (x0 : Nat) (x1 : Int32) (x2 : Int32), m_X4_neededSet_4 n h0 x0 x1 x2 = some r → q_V Γ sz 0 0 h0 [(0, .ref x0), (1, .int x1), (2, .int x2)] [] 4 := by
  intro n
  induction n with
  | zero => intro x0 x1 x2 hm; cases hm
  | succ n ih =>
    intro x0 x1 x2 hm
    unfold m_X4_neededSet_4 at hm
    refine q_iload_n C (k4 := 2) 2 rfl (by decide +kernel) ?_
    refine q_aload_n C (k4 := 0) 0 rfl (by decide +kernel) ?_
    refine q_geti C fl_4_34 hm (by decide +kernel) (fun v1 hm => ?_)
    refine q_icmp_ge C (off := 32) 41 hm (by decide +kernel) (by decide) (fun _ hm => ?_) (fun _ hm => ?_)
    · refine q_iload_n C (k4 := 1) 1 rfl (by decide +kernel) ?_
      exact q_riP hm K rfl (by decide +kernel)
    · refine q_aload_n C (k4 := 0) 0 rfl (by decide +kernel) ?_
      refine q_aload_n C (k4 := 0) 0 rfl (by decide +kernel) ?_
      refine q_viP C Rm (As := []) (rest := [.ref x0]) Y_X4_everyone Yv_X4_everyone ml_X4_43 (by decide) (by decide) hm (fun r9 e9 => c_X4_everyone _ _ _ _ _ _ _ e9) rfl rfl (Nat.le_of_ble_eq_true rfl) (by decide +kernel) (fun r2 hm z3 => ?_)
      refine q_iconst C (n := 1) (v := 1) (by decide) (by decide +kernel) ?_
      refine q_iload_n C (k4 := 2) 2 rfl (by decide +kernel) ?_
      refine q_ishl C (by decide +kernel) ?_
      refine q_iconst C (n := (-1)) (v := (-1)) (by decide) (by decide +kernel) ?_
      refine q_ixor C (by decide +kernel) ?_
      refine q_iand C (by decide +kernel) ?_
      refine q_viP C Rm (As := [.int ((r2 &&& (((1 : Int32) <<< (x2 &&& 31)) ^^^ (-1 : Int32))))]) (rest := []) Y_X4_outweighs Yv_X4_outweighs ml_X4_59 (by decide) (by decide) hm (fun r9 e9 => c_X4_outweighs _ _ _ _ _ _ _ _ e9) rfl rfl (Nat.le_of_ble_eq_true rfl) (by decide +kernel) (fun r4 hm z5 => ?_)
      refine q_if_ne C (off := 9) 35 hm (by decide +kernel) (by decide) (fun _ hm => ?_) (fun _ hm => ?_)
      · exact v_X4_neededSet_35 C Rm K ih _ _ _ hm
      · refine q_iload_n C (k4 := 1) 1 rfl (by decide +kernel) ?_
        refine q_iconst C (n := 1) (v := 1) (by decide) (by decide +kernel) ?_
        refine q_iload_n C (k4 := 2) 2 rfl (by decide +kernel) ?_
        refine q_ishl C (by decide +kernel) ?_
        refine q_ior C (by decide +kernel) ?_
        refine q_istore_n C Rm.1 (k4 := 1) (i := 1) rfl (lv' := [(1, .int ((x1 ||| ((1 : Int32) <<< (x2 &&& 31))))), (0, .ref x0), (2, .int x2)]) rfl (by decide) (by decide +kernel) ?_
        refine q_loc [1, 0, 2] rfl ?_
        exact v_X4_neededSet_35 C Rm K ih _ _ _ hm
def m_X4_neededSet (h0 : q_H) (a0 : Nat) : Option Int32 :=
  m_X4_neededSet_4 q_fu h0 a0 ((0 : Int32)) ((0 : Int32))
set_option maxRecDepth 20000 in
set_option maxHeartbeats 1000000 in
theorem c_X4_neededSet (l : Launch) (base : Nat) (D : va_G) (tc : Nat → ClassId) (sz : Nat) (h0 : q_H) (a0 : Nat) {r : Int32} (hm : m_X4_neededSet h0 a0 = some r) : q_M l yX4_neededSet cX4_neededSet 3 (some .int) 2 44 0 0 base D tc [.ref a0] sz h0 (some (.int r)) sz h0 := by
  refine q_starti (by decide) (Nat.le_of_ble_eq_true rfl) (fun Γ B K => ?_)
  obtain ⟨C, Rm, -⟩ := B
  have C : q_C Γ cX4_neededSet RX4 := C
  show q_V Γ sz 0 0 h0 [(0, .ref a0)] [] 0
  unfold m_X4_neededSet at hm
  refine q_iconst C (n := 0) (v := 0) (by decide) (by decide +kernel) ?_
  refine q_istore_n C Rm.1 (k4 := 1) (i := 1) rfl (lv' := [(1, .int ((0 : Int32))), (0, .ref a0)]) rfl (by decide) (by decide +kernel) ?_
  refine q_iconst C (n := 0) (v := 0) (by decide) (by decide +kernel) ?_
  refine q_istore_n C Rm.1 (k4 := 2) (i := 2) rfl (lv' := [(2, .int ((0 : Int32))), (1, .int ((0 : Int32))), (0, .ref a0)]) rfl (by decide) (by decide +kernel) ?_
  refine q_loc [2, 1, 0] rfl ?_
  exact v_X4_neededSet_4 C Rm K _ _ _ _ hm
def m_X5_readNumber (h : q_H) (a0 : Nat) (a1 : Int32) (a2 : Int32) : Option (Int32 × q_H) :=
  (q_gn h a0 5 0).bind fun v1 =>
  (q_gi h v1 3 8).bind fun v2 =>
  if v2 = 0 then
    (q_gn h a0 5 0).bind fun v3 =>
    (q_ca 3 h v3 (m_X3_next h v3)).bind fun h5 =>
    (q_gn h5 a0 5 0).bind fun v6 =>
    (q_ca 3 h5 v6 (m_X3_isNumber h5 v6 a1 a2)).bind fun (r7, h8) =>
    if r7 = 0 then
      some ((0 : Int32), h8)
    else
      (q_gn h8 a0 5 0).bind fun v10 =>
      (q_gi h8 v10 3 7).bind fun v11 =>
      some (v11, h8)
  else
    some ((0 : Int32), h)
set_option maxRecDepth 20000 in
set_option maxHeartbeats 1000000 in
theorem c_X5_readNumber (l : Launch) (base : Nat) (D : va_G) (tc : Nat → ClassId) (sz : Nat) (h : q_H) (a0 : Nat) (a1 : Int32) (a2 : Int32) {r : Int32} {h' : q_H} (hm : m_X5_readNumber h a0 a1 a2 = some (r, h')) : q_M l yX5_readNumber cX5_readNumber 3 (some .int) 2 43 0 0 base D tc [.ref a0, .int a1, .int a2] sz h (some (.int r)) sz h' := by
  refine q_starti (by decide) (Nat.le_of_ble_eq_true rfl) (fun Γ B K => ?_)
  obtain ⟨C, Rm, -⟩ := B
  have C : q_C Γ cX5_readNumber RX5 := C
  show q_V Γ sz 0 0 h [(0, .ref a0), (1, .int a1), (2, .int a2)] [] 0
  unfold m_X5_readNumber at hm
  refine q_aload_n C (k4 := 0) 0 rfl (by decide +kernel) ?_
  refine q_getn C fl_5_9 hm (by decide +kernel) (fun v1 hm => ?_)
  refine q_geti C fl_5_32 hm (by decide +kernel) (fun v2 hm => ?_)
  refine q_if_eq C (off := 5) 12 hm (by decide +kernel) (by decide) (fun _ hm => ?_) (fun _ hm => ?_)
  · refine q_aload_n C (k4 := 0) 0 rfl (by decide +kernel) ?_
    refine q_getn C fl_5_9 hm (by decide +kernel) (fun v3 hm => ?_)
    refine q_vvS C Rm (As := []) (rest := []) Y_X3_next Yv_X3_next ml_X5_71 (by decide) (by decide) hm (fun h5 e9 => c_X3_next _ _ _ _ _ _ _ e9) rfl rfl (Nat.le_of_ble_eq_true rfl) (by decide +kernel) (fun h5 hm => ?_)
    refine q_aload_n C (k4 := 0) 0 rfl (by decide +kernel) ?_
    refine q_getn C fl_5_9 hm (by decide +kernel) (fun v6 hm => ?_)
    refine q_iload_n C (k4 := 1) 1 rfl (by decide +kernel) ?_
    refine q_iload_n C (k4 := 2) 2 rfl (by decide +kernel) ?_
    refine q_viS C Rm (As := [.int a1, .int a2]) (rest := []) Y_X3_isNumber Yv_X3_isNumber ml_X5_90 (by decide) (by decide) hm (fun r7 h8 e9 => c_X3_isNumber _ _ _ _ _ _ _ _ _ e9) rfl rfl (Nat.le_of_ble_eq_true rfl) (by decide +kernel) (fun r7 h8 hm z9 => ?_)
    refine q_if_eq C (off := 13) 41 hm (by decide +kernel) (by decide) (fun _ hm => ?_) (fun _ hm => ?_)
    · refine q_iconst C (n := 0) (v := 0) (by decide) (by decide +kernel) ?_
      exact q_riS hm K rfl (by decide +kernel)
    · refine q_aload_n C (k4 := 0) 0 rfl (by decide +kernel) ?_
      refine q_getn C fl_5_9 hm (by decide +kernel) (fun v10 hm => ?_)
      refine q_geti C fl_5_94 hm (by decide +kernel) (fun v11 hm => ?_)
      refine q_goto C (off := 4) 42 (by decide +kernel) (by decide) ?_
      exact q_riS hm K rfl (by decide +kernel)
  · refine q_iconst C (n := 0) (v := 0) (by decide) (by decide +kernel) ?_
    exact q_riS hm K rfl (by decide +kernel)
def m_X5_readRope (h : q_H) (a0 : Nat) (a1 : Nat) : Option (Int32 × q_H) :=
  (q_ca 5 h a0 (m_X5_readNumber h a0 ((1 : Int32)) ((60 : Int32)))).bind fun (r1, h2) =>
  (q_pf h2 a1 4 0 (.int r1)).bind fun h4 =>
  (q_ca 5 h4 a0 (m_X5_readNumber h4 a0 ((0 : Int32)) ((9 : Int32)))).bind fun (r5, h6) =>
  (q_pf h6 a1 4 1 (.int r5)).bind fun h8 =>
  (q_gn h8 a0 5 0).bind fun v9 =>
  (q_ca 3 h8 v9 (m_X3_next h8 v9)).bind fun h11 =>
  (q_gn h11 a0 5 0).bind fun v12 =>
  (q_gi h11 v12 3 8).bind fun v13 =>
  if v13 = 0 then
    some ((1 : Int32), h11)
  else
    some ((0 : Int32), h11)
set_option maxRecDepth 20000 in
set_option maxHeartbeats 1000000 in
theorem c_X5_readRope (l : Launch) (base : Nat) (D : va_G) (tc : Nat → ClassId) (sz : Nat) (h : q_H) (a0 : Nat) (a1 : Nat) {r : Int32} {h' : q_H} (hm : m_X5_readRope h a0 a1 = some (r, h')) : q_M l yX5_readRope cX5_readRope 2 (some .boolean) 3 65 0 0 base D tc [.ref a0, .ref a1] sz h (some (.int r)) sz h' := by
  refine q_starti (by decide) (Nat.le_of_ble_eq_true rfl) (fun Γ B K => ?_)
  obtain ⟨C, Rm, -⟩ := B
  have C : q_C Γ cX5_readRope RX5 := C
  show q_V Γ sz 0 0 h [(0, .ref a0), (1, .ref a1)] [] 0
  unfold m_X5_readRope at hm
  refine q_aload_n C (k4 := 1) 1 rfl (by decide +kernel) ?_
  refine q_aload_n C (k4 := 0) 0 rfl (by decide +kernel) ?_
  refine q_iconst C (n := 1) (v := 1) (by decide) (by decide +kernel) ?_
  refine q_bipush C (n := 60) (v := 60) (by decide) (by decide +kernel) ?_
  refine q_viS C Rm (As := [.int ((1 : Int32)), .int ((60 : Int32))]) (rest := [.ref a1]) Y_X5_readNumber Yv_X5_readNumber ml_X5_61 (by decide) (by decide) hm (fun r1 h2 e9 => c_X5_readNumber _ _ _ _ _ _ _ _ _ e9) rfl rfl (Nat.le_of_ble_eq_true rfl) (by decide +kernel) (fun r1 h2 hm z3 => ?_)
  refine q_putf C fl_5_65 hm rfl rfl (by decide +kernel) (fun h4 hm => ?_)
  refine q_aload_n C (k4 := 1) 1 rfl (by decide +kernel) ?_
  refine q_aload_n C (k4 := 0) 0 rfl (by decide +kernel) ?_
  refine q_iconst C (n := 0) (v := 0) (by decide) (by decide +kernel) ?_
  refine q_bipush C (n := 9) (v := 9) (by decide) (by decide +kernel) ?_
  refine q_viS C Rm (As := [.int ((0 : Int32)), .int ((9 : Int32))]) (rest := [.ref a1]) Y_X5_readNumber Yv_X5_readNumber ml_X5_61 (by decide) (by decide) hm (fun r5 h6 e9 => c_X5_readNumber _ _ _ _ _ _ _ _ _ e9) rfl rfl (Nat.le_of_ble_eq_true rfl) (by decide +kernel) (fun r5 h6 hm z7 => ?_)
  refine q_putf C fl_5_68 hm rfl rfl (by decide +kernel) (fun h8 hm => ?_)
  refine q_aload_n C (k4 := 0) 0 rfl (by decide +kernel) ?_
  refine q_getn C fl_5_9 hm (by decide +kernel) (fun v9 hm => ?_)
  refine q_vvS C Rm (As := []) (rest := []) Y_X3_next Yv_X3_next ml_X5_71 (by decide) (by decide) hm (fun h11 e9 => c_X3_next _ _ _ _ _ _ _ e9) rfl rfl (Nat.le_of_ble_eq_true rfl) (by decide +kernel) (fun h11 hm => ?_)
  refine q_aload_n C (k4 := 0) 0 rfl (by decide +kernel) ?_
  refine q_getn C fl_5_9 hm (by decide +kernel) (fun v12 hm => ?_)
  refine q_geti C fl_5_32 hm (by decide +kernel) (fun v13 hm => ?_)
  refine q_if_ne C (off := 7) 43 hm (by decide +kernel) (by decide) (fun _ hm => ?_) (fun _ hm => ?_)
  · refine q_iconst C (n := 0) (v := 0) (by decide) (by decide +kernel) ?_
    exact q_riS hm K q_z0 (by decide +kernel)
  · refine q_iconst C (n := 1) (v := 1) (by decide) (by decide +kernel) ?_
    refine q_goto C (off := 4) 44 (by decide +kernel) (by decide) ?_
    exact q_riS hm K q_z1 (by decide +kernel)
def m_X5_fits (a0 : Int32) : Option Int32 :=
  if a0 ≤ 0 then
    some ((0 : Int32))
  else
    if (40 : Int32) ≤ a0 then
      some ((0 : Int32))
    else
      some ((1 : Int32))
set_option maxRecDepth 20000 in
set_option maxHeartbeats 1000000 in
theorem c_X5_fits (l : Launch) (base : Nat) (D : va_G) (tc : Nat → ClassId) (sz : Nat) (h0 : q_H) (a0 : Int32) {r : Int32} (hm : m_X5_fits a0 = some r) : q_M l yX5_fits cX5_fits 1 (some .boolean) 0 0 0 0 base D tc [.int a0] sz h0 (some (.int r)) sz h0 := by
  refine q_starti (by decide) (Nat.le_of_ble_eq_true rfl) (fun Γ B K => ?_)
  obtain ⟨C, Rm, -⟩ := B
  have C : q_C Γ cX5_fits RX5 := C
  show q_V Γ sz 0 0 h0 [(0, .int a0)] [] 0
  unfold m_X5_fits at hm
  refine q_iload_n C (k4 := 0) 0 rfl (by decide +kernel) ?_
  refine q_if_le C (off := 13) 14 hm (by decide +kernel) (by decide) (fun _ hm => ?_) (fun _ hm => ?_)
  · refine q_iconst C (n := 0) (v := 0) (by decide) (by decide +kernel) ?_
    exact q_riP hm K q_z0 (by decide +kernel)
  · refine q_iload_n C (k4 := 0) 0 rfl (by decide +kernel) ?_
    refine q_bipush C (n := 40) (v := 40) (by decide) (by decide +kernel) ?_
    refine q_icmp_ge C (off := 7) 14 hm (by decide +kernel) (by decide) (fun _ hm => ?_) (fun _ hm => ?_)
    · refine q_iconst C (n := 0) (v := 0) (by decide) (by decide +kernel) ?_
      exact q_riP hm K q_z0 (by decide +kernel)
    · refine q_iconst C (n := 1) (v := 1) (by decide) (by decide +kernel) ?_
      refine q_goto C (off := 4) 15 (by decide +kernel) (by decide) ?_
      exact q_riP hm K q_z1 (by decide +kernel)
def m_X5_readPuller (h : q_H) (a0 : Nat) (a1 : Nat) : Option (Int32 × q_H) :=
  (q_gi h a1 4 3).bind fun v1 =>
  (q_gn h a1 4 4).bind fun v2 =>
  (q_ca 5 h a0 (m_X5_readNumber h a0 ((0 : Int32)) ((1 : Int32)))).bind fun (r3, h4) =>
  (q_si h4 v2 1 v1 r3).bind fun h6 =>
  (q_gn h6 a1 4 5).bind fun v7 =>
  (q_ca 5 h6 a0 (m_X5_readNumber h6 a0 ((1 : Int32)) ((40 : Int32)))).bind fun (r8, h9) =>
  (q_si h9 v7 1 v1 r8).bind fun h11 =>
  (q_gn h11 a1 4 6).bind fun v12 =>
  (q_ca 5 h11 a0 (m_X5_readNumber h11 a0 ((0 : Int32)) ((60 : Int32)))).bind fun (r13, h14) =>
  (q_si h14 v12 1 v1 r13).bind fun h16 =>
  (q_gn h16 a1 4 7).bind fun v17 =>
  (q_ca 5 h16 a0 (m_X5_readNumber h16 a0 ((0 : Int32)) ((9 : Int32)))).bind fun (r18, h19) =>
  (q_si h19 v17 1 v1 r18).bind fun h21 =>
  (q_gi h21 a1 4 3).bind fun v22 =>
  (q_pf h21 a1 4 3 (.int ((v22 + (1 : Int32))))).bind fun h23 =>
  (q_gn h23 a0 5 0).bind fun v24 =>
  (q_ca 3 h23 v24 (m_X3_next h23 v24)).bind fun h26 =>
  (q_gn h26 a0 5 0).bind fun v27 =>
  (q_gi h26 v27 3 8).bind fun v28 =>
  if v28 = 0 then
    some ((1 : Int32), h26)
  else
    some ((0 : Int32), h26)
set_option maxRecDepth 20000 in
set_option maxHeartbeats 1000000 in
theorem c_X5_readPuller (l : Launch) (base : Nat) (D : va_G) (tc : Nat → ClassId) (sz : Nat) (h : q_H) (a0 : Nat) (a1 : Nat) {r : Int32} {h' : q_H} (hm : m_X5_readPuller h a0 a1 = some (r, h')) : q_M l yX5_readPuller cX5_readPuller 3 (some .boolean) 3 65 0 0 base D tc [.ref a0, .ref a1] sz h (some (.int r)) sz h' := by
  refine q_starti (by decide) (Nat.le_of_ble_eq_true rfl) (fun Γ B K => ?_)
  obtain ⟨C, Rm, -⟩ := B
  have C : q_C Γ cX5_readPuller RX5 := C
  show q_V Γ sz 0 0 h [(0, .ref a0), (1, .ref a1)] [] 0
  unfold m_X5_readPuller at hm
  refine q_aload_n C (k4 := 1) 1 rfl (by decide +kernel) ?_
  refine q_geti C fl_5_47 hm (by decide +kernel) (fun v1 hm => ?_)
  refine q_istore_n C Rm.1 (k4 := 2) (i := 2) rfl (lv' := [(2, .int v1), (0, .ref a0), (1, .ref a1)]) rfl (by decide) (by decide +kernel) ?_
  refine q_aload_n C (k4 := 1) 2 rfl (by decide +kernel) ?_
  refine q_getn C fl_5_74 hm (by decide +kernel) (fun v2 hm => ?_)
  refine q_iload_n C (k4 := 2) 0 rfl (by decide +kernel) ?_
  refine q_aload_n C (k4 := 0) 1 rfl (by decide +kernel) ?_
  refine q_iconst C (n := 0) (v := 0) (by decide) (by decide +kernel) ?_
  refine q_iconst C (n := 1) (v := 1) (by decide) (by decide +kernel) ?_
  refine q_viS C Rm (As := [.int ((0 : Int32)), .int ((1 : Int32))]) (rest := [.int v1, .ref v2]) Y_X5_readNumber Yv_X5_readNumber ml_X5_61 (by decide) (by decide) hm (fun r3 h4 e9 => c_X5_readNumber _ _ _ _ _ _ _ _ _ e9) rfl rfl (Nat.le_of_ble_eq_true rfl) (by decide +kernel) (fun r3 h4 hm z5 => ?_)
  refine q_iw C hm (by decide +kernel) (fun h6 hm => ?_)
  refine q_aload_n C (k4 := 1) 2 rfl (by decide +kernel) ?_
  refine q_getn C fl_5_78 hm (by decide +kernel) (fun v7 hm => ?_)
  refine q_iload_n C (k4 := 2) 0 rfl (by decide +kernel) ?_
  refine q_aload_n C (k4 := 0) 1 rfl (by decide +kernel) ?_
  refine q_iconst C (n := 1) (v := 1) (by decide) (by decide +kernel) ?_
  refine q_bipush C (n := 40) (v := 40) (by decide) (by decide +kernel) ?_
  refine q_viS C Rm (As := [.int ((1 : Int32)), .int ((40 : Int32))]) (rest := [.int v1, .ref v7]) Y_X5_readNumber Yv_X5_readNumber ml_X5_61 (by decide) (by decide) hm (fun r8 h9 e9 => c_X5_readNumber _ _ _ _ _ _ _ _ _ e9) rfl rfl (Nat.le_of_ble_eq_true rfl) (by decide +kernel) (fun r8 h9 hm z10 => ?_)
  refine q_iw C hm (by decide +kernel) (fun h11 hm => ?_)
  refine q_aload_n C (k4 := 1) 2 rfl (by decide +kernel) ?_
  refine q_getn C fl_5_81 hm (by decide +kernel) (fun v12 hm => ?_)
  refine q_iload_n C (k4 := 2) 0 rfl (by decide +kernel) ?_
  refine q_aload_n C (k4 := 0) 1 rfl (by decide +kernel) ?_
  refine q_iconst C (n := 0) (v := 0) (by decide) (by decide +kernel) ?_
  refine q_bipush C (n := 60) (v := 60) (by decide) (by decide +kernel) ?_
  refine q_viS C Rm (As := [.int ((0 : Int32)), .int ((60 : Int32))]) (rest := [.int v1, .ref v12]) Y_X5_readNumber Yv_X5_readNumber ml_X5_61 (by decide) (by decide) hm (fun r13 h14 e9 => c_X5_readNumber _ _ _ _ _ _ _ _ _ e9) rfl rfl (Nat.le_of_ble_eq_true rfl) (by decide +kernel) (fun r13 h14 hm z15 => ?_)
  refine q_iw C hm (by decide +kernel) (fun h16 hm => ?_)
  refine q_aload_n C (k4 := 1) 2 rfl (by decide +kernel) ?_
  refine q_getn C fl_5_84 hm (by decide +kernel) (fun v17 hm => ?_)
  refine q_iload_n C (k4 := 2) 0 rfl (by decide +kernel) ?_
  refine q_aload_n C (k4 := 0) 1 rfl (by decide +kernel) ?_
  refine q_iconst C (n := 0) (v := 0) (by decide) (by decide +kernel) ?_
  refine q_bipush C (n := 9) (v := 9) (by decide) (by decide +kernel) ?_
  refine q_viS C Rm (As := [.int ((0 : Int32)), .int ((9 : Int32))]) (rest := [.int v1, .ref v17]) Y_X5_readNumber Yv_X5_readNumber ml_X5_61 (by decide) (by decide) hm (fun r18 h19 e9 => c_X5_readNumber _ _ _ _ _ _ _ _ _ e9) rfl rfl (Nat.le_of_ble_eq_true rfl) (by decide +kernel) (fun r18 h19 hm z20 => ?_)
  refine q_iw C hm (by decide +kernel) (fun h21 hm => ?_)
  refine q_aload_n C (k4 := 1) 2 rfl (by decide +kernel) ?_
  refine q_dup C rfl (by decide +kernel) ?_
  refine q_geti C fl_5_47 hm (by decide +kernel) (fun v22 hm => ?_)
  refine q_iconst C (n := 1) (v := 1) (by decide) (by decide +kernel) ?_
  refine q_iadd C (by decide +kernel) ?_
  refine q_putf C fl_5_47 hm rfl rfl (by decide +kernel) (fun h23 hm => ?_)
  refine q_aload_n C (k4 := 0) 1 rfl (by decide +kernel) ?_
  refine q_getn C fl_5_9 hm (by decide +kernel) (fun v24 hm => ?_)
  refine q_vvS C Rm (As := []) (rest := []) Y_X3_next Yv_X3_next ml_X5_71 (by decide) (by decide) hm (fun h26 e9 => c_X3_next _ _ _ _ _ _ _ e9) rfl rfl (Nat.le_of_ble_eq_true rfl) (by decide +kernel) (fun h26 hm => ?_)
  refine q_aload_n C (k4 := 0) 1 rfl (by decide +kernel) ?_
  refine q_getn C fl_5_9 hm (by decide +kernel) (fun v27 hm => ?_)
  refine q_geti C fl_5_32 hm (by decide +kernel) (fun v28 hm => ?_)
  refine q_if_ne C (off := 7) 87 hm (by decide +kernel) (by decide) (fun _ hm => ?_) (fun _ hm => ?_)
  · refine q_iconst C (n := 0) (v := 0) (by decide) (by decide +kernel) ?_
    exact q_riS hm K q_z0 (by decide +kernel)
  · refine q_iconst C (n := 1) (v := 1) (by decide) (by decide +kernel) ?_
    refine q_goto C (off := 4) 88 (by decide +kernel) (by decide) ?_
    exact q_riS hm K q_z1 (by decide +kernel)
def m_X5_readRibbon (h : q_H) (a0 : Nat) (a1 : Nat) : Option (Int32 × q_H) :=
  (q_pf h a0 5 1 (.int ((1 : Int32)))).bind fun h1 =>
  (q_gi h1 a1 4 0).bind fun v2 =>
  (q_ca 5 h1 a0 (m_X5_readNumber h1 a0 ((0 : Int32)) ((((2 : Int32) * v2) - (2 : Int32))))).bind fun (r3, h4) =>
  (q_gi h4 a1 4 0).bind fun v6 =>
  (q_pf h4 a1 4 2 (.int ((r3 - (v6 - (1 : Int32)))))).bind fun h7 =>
  (q_gn h7 a0 5 0).bind fun v8 =>
  (q_ca 3 h7 v8 (m_X3_next h7 v8)).bind fun h10 =>
  (q_gn h10 a0 5 0).bind fun v11 =>
  (q_gi h10 v11 3 8).bind fun v12 =>
  if v12 = 0 then
    some ((1 : Int32), h10)
  else
    some ((0 : Int32), h10)
set_option maxRecDepth 20000 in
set_option maxHeartbeats 1000000 in
theorem c_X5_readRibbon (l : Launch) (base : Nat) (D : va_G) (tc : Nat → ClassId) (sz : Nat) (h : q_H) (a0 : Nat) (a1 : Nat) {r : Int32} {h' : q_H} (hm : m_X5_readRibbon h a0 a1 = some (r, h')) : q_M l yX5_readRibbon cX5_readRibbon 2 (some .boolean) 3 65 0 0 base D tc [.ref a0, .ref a1] sz h (some (.int r)) sz h' := by
  refine q_starti (by decide) (Nat.le_of_ble_eq_true rfl) (fun Γ B K => ?_)
  obtain ⟨C, Rm, -⟩ := B
  have C : q_C Γ cX5_readRibbon RX5 := C
  show q_V Γ sz 0 0 h [(0, .ref a0), (1, .ref a1)] [] 0
  unfold m_X5_readRibbon at hm
  refine q_aload_n C (k4 := 0) 0 rfl (by decide +kernel) ?_
  refine q_iconst C (n := 1) (v := 1) (by decide) (by decide +kernel) ?_
  refine q_putf C fl_5_15 hm q_z1 (by decide) (by decide +kernel) (fun h1 hm => ?_)
  refine q_aload_n C (k4 := 1) 1 rfl (by decide +kernel) ?_
  refine q_aload_n C (k4 := 0) 0 rfl (by decide +kernel) ?_
  refine q_iconst C (n := 0) (v := 0) (by decide) (by decide +kernel) ?_
  refine q_iconst C (n := 2) (v := 2) (by decide) (by decide +kernel) ?_
  refine q_aload_n C (k4 := 1) 1 rfl (by decide +kernel) ?_
  refine q_geti C fl_5_65 hm (by decide +kernel) (fun v2 hm => ?_)
  refine q_imul C (by decide +kernel) ?_
  refine q_iconst C (n := 2) (v := 2) (by decide) (by decide +kernel) ?_
  refine q_isub C (by decide +kernel) ?_
  refine q_viS C Rm (As := [.int ((0 : Int32)), .int ((((2 : Int32) * v2) - (2 : Int32)))]) (rest := [.ref a1]) Y_X5_readNumber Yv_X5_readNumber ml_X5_61 (by decide) (by decide) hm (fun r3 h4 e9 => c_X5_readNumber _ _ _ _ _ _ _ _ _ e9) rfl rfl (Nat.le_of_ble_eq_true rfl) (by decide +kernel) (fun r3 h4 hm z5 => ?_)
  refine q_aload_n C (k4 := 1) 1 rfl (by decide +kernel) ?_
  refine q_geti C fl_5_65 hm (by decide +kernel) (fun v6 hm => ?_)
  refine q_iconst C (n := 1) (v := 1) (by decide) (by decide +kernel) ?_
  refine q_isub C (by decide +kernel) ?_
  refine q_isub C (by decide +kernel) ?_
  refine q_putf C fl_5_87 hm rfl rfl (by decide +kernel) (fun h7 hm => ?_)
  refine q_aload_n C (k4 := 0) 0 rfl (by decide +kernel) ?_
  refine q_getn C fl_5_9 hm (by decide +kernel) (fun v8 hm => ?_)
  refine q_vvS C Rm (As := []) (rest := []) Y_X3_next Yv_X3_next ml_X5_71 (by decide) (by decide) hm (fun h10 e9 => c_X3_next _ _ _ _ _ _ _ e9) rfl rfl (Nat.le_of_ble_eq_true rfl) (by decide +kernel) (fun h10 hm => ?_)
  refine q_aload_n C (k4 := 0) 0 rfl (by decide +kernel) ?_
  refine q_getn C fl_5_9 hm (by decide +kernel) (fun v11 hm => ?_)
  refine q_geti C fl_5_32 hm (by decide +kernel) (fun v12 hm => ?_)
  refine q_if_ne C (off := 7) 50 hm (by decide +kernel) (by decide) (fun _ hm => ?_) (fun _ hm => ?_)
  · refine q_iconst C (n := 0) (v := 0) (by decide) (by decide +kernel) ?_
    exact q_riS hm K q_z0 (by decide +kernel)
  · refine q_iconst C (n := 1) (v := 1) (by decide) (by decide +kernel) ?_
    refine q_goto C (off := 4) 51 (by decide +kernel) (by decide) ?_
    exact q_riS hm K q_z1 (by decide +kernel)
def m_X5_readClause_87  (h : q_H) (x0 : Nat) : Option (Int32 × q_H) :=
  (q_gn h x0 5 0).bind fun v30 =>
  (q_ca 3 h v30 (m_X3_refuse h v30 ((4 : Int32)))).bind fun (r31, h32) =>
  some (r31, h32)
set_option maxRecDepth 20000 in
set_option maxHeartbeats 1000000 in
theorem v_X5_readClause_87 {Γ : q_G} {sz : Nat} {r : Int32} {h' : q_H} (C : q_C Γ cX5_readClause RX5) (Rm : q_Rm Γ 4 4 87 0 0)  (K : narrow .boolean (.int r) = .int r → q_K Γ cX5_readClause .ireturn sz h' 0 0 [.int r])  : ∀ (h : q_H) (x0 : Nat), m_X5_readClause_87 h x0 = some (r, h') → q_V Γ sz 0 0 h [(0, .ref x0)] [] 87 := by
  intro h x0 hm
  unfold m_X5_readClause_87 at hm
  refine q_aload_n C (k4 := 0) 0 rfl (by decide +kernel) ?_
  refine q_getn C fl_5_9 hm (by decide +kernel) (fun v30 hm => ?_)
  refine q_iconst C (n := 4) (v := 4) (by decide) (by decide +kernel) ?_
  refine q_viS C Rm (As := [.int ((4 : Int32))]) (rest := []) Y_X3_refuse Yv_X3_refuse ml_X5_39 (by decide) (by decide) hm (fun r31 h32 e9 => c_X3_refuse _ _ _ _ _ _ _ _ e9) rfl rfl (Nat.le_of_ble_eq_true rfl) (by decide +kernel) (fun r31 h32 hm z33 => ?_)
  refine q_goto C (off := 8) 103 (by decide +kernel) (by decide) ?_
  exact q_riS hm K z33 (by decide +kernel)
def m_X5_readClause_75  (h : q_H) (x0 : Nat) (x1 : Int32) (x2 : Nat) (s0 : Int32) : Option (Int32 × q_H) :=
  if s0 = 0 then
    (m_X5_fits x1).bind fun r25 =>
    if r25 = 0 then
      m_X5_readClause_87 h x0
    else
      (q_ca 5 h x0 (m_X5_readPuller h x0 x2)).bind fun (r27, h28) =>
      some (r27, h28)
  else
    m_X5_readClause_87 h x0
set_option maxRecDepth 20000 in
set_option maxHeartbeats 1000000 in
theorem v_X5_readClause_75 {Γ : q_G} {sz : Nat} {r : Int32} {h' : q_H} (C : q_C Γ cX5_readClause RX5) (Rm : q_Rm Γ 4 4 87 0 0)  (K : narrow .boolean (.int r) = .int r → q_K Γ cX5_readClause .ireturn sz h' 0 0 [.int r])  : ∀ (h : q_H) (x0 : Nat) (x1 : Int32) (x2 : Nat) (s0 : Int32), m_X5_readClause_75 h x0 x1 x2 s0 = some (r, h') → q_V Γ sz 0 0 h [(0, .ref x0), (1, .int x1), (2, .ref x2)] [.int s0] 75 := by
  intro h x0 x1 x2 s0 hm
  unfold m_X5_readClause_75 at hm
  refine q_istore_n C Rm.1 (k4 := 3) (i := 3) rfl (lv' := [(3, .int s0), (0, .ref x0), (1, .int x1), (2, .ref x2)]) rfl (by decide) (by decide +kernel) ?_
  refine q_iload_n C (k4 := 3) 0 rfl (by decide +kernel) ?_
  refine q_if_ne C (off := 10) 87 hm (by decide +kernel) (by decide) (fun _ hm => ?_) (fun _ hm => ?_)
  · refine q_loc [1] rfl ?_
    exact v_X5_readClause_87 C Rm K _ _ hm
  · refine q_iload_n C (k4 := 1) 2 rfl (by decide +kernel) ?_
    refine q_siP C Rm (As := [.int x1]) (rest := []) Y_X5_fits Ys_X5_fits ml_X5_52 (by decide) (by decide) hm (fun r9 e9 => c_X5_fits _ _ _ _ _ _ _ e9) rfl rfl (Nat.le_of_ble_eq_true rfl) (by decide +kernel) (fun r25 hm z26 => ?_)
    refine q_if_ne C (off := 14) 98 hm (by decide +kernel) (by decide) (fun _ hm => ?_) (fun _ hm => ?_)
    · refine q_aload_n C (k4 := 0) 1 rfl (by decide +kernel) ?_
      refine q_aload_n C (k4 := 2) 3 rfl (by decide +kernel) ?_
      refine q_viS C Rm (As := [.ref x2]) (rest := []) Y_X5_readPuller Yv_X5_readPuller ml_X5_55 (by decide) (by decide) hm (fun r27 h28 e9 => c_X5_readPuller _ _ _ _ _ _ _ _ e9) rfl rfl (Nat.le_of_ble_eq_true rfl) (by decide +kernel) (fun r27 h28 hm z29 => ?_)
      exact q_riS hm K z29 (by decide +kernel)
    · refine q_loc [1] rfl ?_
      exact v_X5_readClause_87 C Rm K _ _ hm
def m_X5_readClause_118  (h : q_H) (x0 : Nat) : Option (Int32 × q_H) :=
  (q_gn h x0 5 0).bind fun v21 =>
  (q_ca 3 h v21 (m_X3_refuse h v21 ((4 : Int32)))).bind fun (r22, h23) =>
  some (r22, h23)
set_option maxRecDepth 20000 in
set_option maxHeartbeats 1000000 in
theorem v_X5_readClause_118 {Γ : q_G} {sz : Nat} {r : Int32} {h' : q_H} (C : q_C Γ cX5_readClause RX5) (Rm : q_Rm Γ 4 4 87 0 0)  (K : narrow .boolean (.int r) = .int r → q_K Γ cX5_readClause .ireturn sz h' 0 0 [.int r])  : ∀ (h : q_H) (x0 : Nat), m_X5_readClause_118 h x0 = some (r, h') → q_V Γ sz 0 0 h [(0, .ref x0)] [] 118 := by
  intro h x0 hm
  unfold m_X5_readClause_118 at hm
  refine q_aload_n C (k4 := 0) 0 rfl (by decide +kernel) ?_
  refine q_getn C fl_5_9 hm (by decide +kernel) (fun v21 hm => ?_)
  refine q_iconst C (n := 4) (v := 4) (by decide) (by decide +kernel) ?_
  refine q_viS C Rm (As := [.int ((4 : Int32))]) (rest := []) Y_X3_refuse Yv_X3_refuse ml_X5_39 (by decide) (by decide) hm (fun r22 h23 e9 => c_X3_refuse _ _ _ _ _ _ _ _ e9) rfl rfl (Nat.le_of_ble_eq_true rfl) (by decide +kernel) (fun r22 h23 hm z24 => ?_)
  refine q_goto C (off := 8) 134 (by decide +kernel) (by decide) ?_
  exact q_riS hm K z24 (by decide +kernel)
def m_X5_readClause (h : q_H) (a0 : Nat) (a1 : Int32) (a2 : Nat) : Option (Int32 × q_H) :=
  (q_gn h a0 5 0).bind fun v1 =>
  (q_gi h v1 3 6).bind fun v2 =>
  if v2 = 700 then
    (q_gi h a2 4 3).bind fun v3 =>
    if v3 < (8 : Int32) then
      m_X5_readClause_75 h a0 a1 a2 ((0 : Int32))
    else
      m_X5_readClause_75 h a0 a1 a2 ((1 : Int32))
  else
  if v2 = 707 then
    (q_gi h a0 5 1).bind fun v4 =>
    if v4 = 0 then
      (m_X5_fits a1).bind fun r5 =>
      if r5 = 0 then
        m_X5_readClause_118 h a0
      else
        (q_ca 5 h a0 (m_X5_readRibbon h a0 a2)).bind fun (r7, h8) =>
        some (r7, h8)
    else
      m_X5_readClause_118 h a0
  else
  if v2 = 711 then
    if a1 = 0 then
      (q_ca 5 h a0 (m_X5_readRope h a0 a2)).bind fun (r10, h11) =>
      some (r10, h11)
    else
      (q_gn h a0 5 0).bind fun v13 =>
      (q_ca 3 h v13 (m_X3_refuse h v13 ((4 : Int32)))).bind fun (r14, h15) =>
      some (r14, h15)
  else
  (q_gn h a0 5 0).bind fun v17 =>
  (q_ca 3 h v17 (m_X3_refuse h v17 ((0 : Int32)))).bind fun (r18, h19) =>
  some (r18, h19)
set_option maxRecDepth 20000 in
set_option maxHeartbeats 1000000 in
theorem c_X5_readClause (l : Launch) (base : Nat) (D : va_G) (tc : Nat → ClassId) (sz : Nat) (h : q_H) (a0 : Nat) (a1 : Int32) (a2 : Nat) {r : Int32} {h' : q_H} (hm : m_X5_readClause h a0 a1 a2 = some (r, h')) : q_M l yX5_readClause cX5_readClause 4 (some .boolean) 4 87 0 0 base D tc [.ref a0, .int a1, .ref a2] sz h (some (.int r)) sz h' := by
  refine q_starti (by decide) (Nat.le_of_ble_eq_true rfl) (fun Γ B K => ?_)
  obtain ⟨C, Rm, -⟩ := B
  have C : q_C Γ cX5_readClause RX5 := C
  show q_V Γ sz 0 0 h [(0, .ref a0), (1, .int a1), (2, .ref a2)] [] 0
  unfold m_X5_readClause at hm
  refine q_aload_n C (k4 := 0) 0 rfl (by decide +kernel) ?_
  refine q_getn C fl_5_9 hm (by decide +kernel) (fun v1 hm => ?_)
  refine q_geti C fl_5_36 hm (by decide +kernel) (fun v2 hm => ?_)
  by_cases c7_0 : v2 = 700
  · rw [if_pos c7_0] at hm
    refine q_ls C (dflt := 128) (ps := #[(700, 54), (707, 97), (711, 33)]) (len := 33) (54) 61 (by decide +kernel) (by decide) (by rw [c7_0]; decide) (by decide) ?_
    refine q_aload_n C (k4 := 2) 2 rfl (by decide +kernel) ?_
    refine q_geti C fl_5_47 hm (by decide +kernel) (fun v3 hm => ?_)
    refine q_bipush C (n := 8) (v := 8) (by decide) (by decide +kernel) ?_
    refine q_icmp_lt C (off := 7) 74 hm (by decide +kernel) (by decide) (fun _ hm => ?_) (fun _ hm => ?_)
    · refine q_iconst C (n := 0) (v := 0) (by decide) (by decide +kernel) ?_
      exact v_X5_readClause_75 C Rm K _ _ _ _ _ hm
    · refine q_iconst C (n := 1) (v := 1) (by decide) (by decide +kernel) ?_
      refine q_goto C (off := 4) 75 (by decide +kernel) (by decide) ?_
      exact v_X5_readClause_75 C Rm K _ _ _ _ _ hm
  rw [if_neg c7_0] at hm
  by_cases c7_1 : v2 = 707
  · rw [if_pos c7_1] at hm
    refine q_ls C (dflt := 128) (ps := #[(700, 54), (707, 97), (711, 33)]) (len := 33) (97) 104 (by decide +kernel) (by decide) (by rw [c7_1]; decide) (by decide) ?_
    refine q_aload_n C (k4 := 0) 0 rfl (by decide +kernel) ?_
    refine q_geti C fl_5_15 hm (by decide +kernel) (fun v4 hm => ?_)
    refine q_if_ne C (off := 10) 118 hm (by decide +kernel) (by decide) (fun _ hm => ?_) (fun _ hm => ?_)
    · refine q_loc [0] rfl ?_
      exact v_X5_readClause_118 C Rm K _ _ hm
    · refine q_iload_n C (k4 := 1) 1 rfl (by decide +kernel) ?_
      refine q_siP C Rm (As := [.int a1]) (rest := []) Y_X5_fits Ys_X5_fits ml_X5_52 (by decide) (by decide) hm (fun r9 e9 => c_X5_fits _ _ _ _ _ _ _ e9) rfl rfl (Nat.le_of_ble_eq_true rfl) (by decide +kernel) (fun r5 hm z6 => ?_)
      refine q_if_ne C (off := 14) 129 hm (by decide +kernel) (by decide) (fun _ hm => ?_) (fun _ hm => ?_)
      · refine q_aload_n C (k4 := 0) 0 rfl (by decide +kernel) ?_
        refine q_aload_n C (k4 := 2) 2 rfl (by decide +kernel) ?_
        refine q_viS C Rm (As := [.ref a2]) (rest := []) Y_X5_readRibbon Yv_X5_readRibbon ml_X5_58 (by decide) (by decide) hm (fun r7 h8 e9 => c_X5_readRibbon _ _ _ _ _ _ _ _ e9) rfl rfl (Nat.le_of_ble_eq_true rfl) (by decide +kernel) (fun r7 h8 hm z9 => ?_)
        exact q_riS hm K z9 (by decide +kernel)
      · refine q_loc [0] rfl ?_
        exact v_X5_readClause_118 C Rm K _ _ hm
  rw [if_neg c7_1] at hm
  by_cases c7_2 : v2 = 711
  · rw [if_pos c7_2] at hm
    refine q_ls C (dflt := 128) (ps := #[(700, 54), (707, 97), (711, 33)]) (len := 33) (33) 40 (by decide +kernel) (by decide) (by rw [c7_2]; decide) (by decide) ?_
    refine q_iload_n C (k4 := 1) 1 rfl (by decide +kernel) ?_
    refine q_if_eq C (off := 14) 55 hm (by decide +kernel) (by decide) (fun _ hm => ?_) (fun _ hm => ?_)
    · refine q_aload_n C (k4 := 0) 0 rfl (by decide +kernel) ?_
      refine q_aload_n C (k4 := 2) 2 rfl (by decide +kernel) ?_
      refine q_viS C Rm (As := [.ref a2]) (rest := []) Y_X5_readRope Yv_X5_readRope ml_X5_43 (by decide) (by decide) hm (fun r10 h11 e9 => c_X5_readRope _ _ _ _ _ _ _ _ e9) rfl rfl (Nat.le_of_ble_eq_true rfl) (by decide +kernel) (fun r10 h11 hm z12 => ?_)
      exact q_riS hm K z12 (by decide +kernel)
    · refine q_aload_n C (k4 := 0) 0 rfl (by decide +kernel) ?_
      refine q_getn C fl_5_9 hm (by decide +kernel) (fun v13 hm => ?_)
      refine q_iconst C (n := 4) (v := 4) (by decide) (by decide +kernel) ?_
      refine q_viS C Rm (As := [.int ((4 : Int32))]) (rest := []) Y_X3_refuse Yv_X3_refuse ml_X5_39 (by decide) (by decide) hm (fun r14 h15 e9 => c_X3_refuse _ _ _ _ _ _ _ _ e9) rfl rfl (Nat.le_of_ble_eq_true rfl) (by decide +kernel) (fun r14 h15 hm z16 => ?_)
      refine q_goto C (off := 8) 60 (by decide +kernel) (by decide) ?_
      exact q_riS hm K z16 (by decide +kernel)
  rw [if_neg c7_2] at hm
  refine q_ls C (dflt := 128) (ps := #[(700, 54), (707, 97), (711, 33)]) (len := 33) (128) 135 (by decide +kernel) (by decide) ((lv_osw (k := 700) c7_0 (by decide)).trans ((lv_osw (k := 707) c7_1 (by decide)).trans ((lv_osw (k := 711) c7_2 (by decide)).trans (rfl)))) (by decide) ?_
  refine q_aload_n C (k4 := 0) 0 rfl (by decide +kernel) ?_
  refine q_getn C fl_5_9 hm (by decide +kernel) (fun v17 hm => ?_)
  refine q_iconst C (n := 0) (v := 0) (by decide) (by decide +kernel) ?_
  refine q_viS C Rm (As := [.int ((0 : Int32))]) (rest := []) Y_X3_refuse Yv_X3_refuse ml_X5_39 (by decide) (by decide) hm (fun r18 h19 e9 => c_X3_refuse _ _ _ _ _ _ _ _ e9) rfl rfl (Nat.le_of_ble_eq_true rfl) (by decide +kernel) (fun r18 h19 hm z20 => ?_)
  exact q_riS hm K z20 (by decide +kernel)
def m_X6_arithmetic (a0 : Int32) : Option Int32 :=
  if a0 = 37 then
    some ((9 : Int32))
  else
  if a0 = 38 then
    some ((0 : Int32))
  else
  if a0 = 39 then
    some ((0 : Int32))
  else
  if a0 = 40 then
    some ((0 : Int32))
  else
  if a0 = 41 then
    some ((0 : Int32))
  else
  if a0 = 42 then
    some ((7 : Int32))
  else
  if a0 = 43 then
    some ((5 : Int32))
  else
  if a0 = 44 then
    some ((0 : Int32))
  else
  if a0 = 45 then
    some ((6 : Int32))
  else
  if a0 = 46 then
    some ((0 : Int32))
  else
  if a0 = 47 then
    some ((8 : Int32))
  else
  some ((0 : Int32))
set_option maxRecDepth 20000 in
set_option maxHeartbeats 1000000 in
theorem c_X6_arithmetic (l : Launch) (base : Nat) (D : va_G) (tc : Nat → ClassId) (sz : Nat) (h0 : q_H) (a0 : Int32) {r : Int32} (hm : m_X6_arithmetic a0 = some r) : q_M l yX6_arithmetic cX6_arithmetic 1 (some .int) 0 0 0 0 base D tc [.int a0] sz h0 (some (.int r)) sz h0 := by
  refine q_starti (by decide) (Nat.le_of_ble_eq_true rfl) (fun Γ B K => ?_)
  obtain ⟨C, Rm, -⟩ := B
  have C : q_C Γ cX6_arithmetic RX6 := C
  show q_V Γ sz 0 0 h0 [(0, .int a0)] [] 0
  unfold m_X6_arithmetic at hm
  refine q_iload_n C (k4 := 0) 0 rfl (by decide +kernel) ?_
  by_cases c1_0 : a0 = 37
  · rw [if_pos c1_0] at hm
    refine q_tsIn C (dflt := 73) (lo := 37) (hi := 47) (offs := #[70, 73, 73, 73, 73, 64, 59, 73, 61, 73, 67]) (len := 59) (70) 71 (by decide +kernel) (by rw [c1_0]; decide) (by rw [c1_0]; decide) (by rw [c1_0]; decide) (by decide) ?_
    refine q_bipush C (n := 9) (v := 9) (by decide) (by decide +kernel) ?_
    exact q_riP hm K rfl (by decide +kernel)
  rw [if_neg c1_0] at hm
  by_cases c1_1 : a0 = 38
  · rw [if_pos c1_1] at hm
    refine q_tsIn C (dflt := 73) (lo := 37) (hi := 47) (offs := #[70, 73, 73, 73, 73, 64, 59, 73, 61, 73, 67]) (len := 59) (73) 74 (by decide +kernel) (by rw [c1_1]; decide) (by rw [c1_1]; decide) (by rw [c1_1]; decide) (by decide) ?_
    refine q_iconst C (n := 0) (v := 0) (by decide) (by decide +kernel) ?_
    exact q_riP hm K rfl (by decide +kernel)
  rw [if_neg c1_1] at hm
  by_cases c1_2 : a0 = 39
  · rw [if_pos c1_2] at hm
    refine q_tsIn C (dflt := 73) (lo := 37) (hi := 47) (offs := #[70, 73, 73, 73, 73, 64, 59, 73, 61, 73, 67]) (len := 59) (73) 74 (by decide +kernel) (by rw [c1_2]; decide) (by rw [c1_2]; decide) (by rw [c1_2]; decide) (by decide) ?_
    refine q_iconst C (n := 0) (v := 0) (by decide) (by decide +kernel) ?_
    exact q_riP hm K rfl (by decide +kernel)
  rw [if_neg c1_2] at hm
  by_cases c1_3 : a0 = 40
  · rw [if_pos c1_3] at hm
    refine q_tsIn C (dflt := 73) (lo := 37) (hi := 47) (offs := #[70, 73, 73, 73, 73, 64, 59, 73, 61, 73, 67]) (len := 59) (73) 74 (by decide +kernel) (by rw [c1_3]; decide) (by rw [c1_3]; decide) (by rw [c1_3]; decide) (by decide) ?_
    refine q_iconst C (n := 0) (v := 0) (by decide) (by decide +kernel) ?_
    exact q_riP hm K rfl (by decide +kernel)
  rw [if_neg c1_3] at hm
  by_cases c1_4 : a0 = 41
  · rw [if_pos c1_4] at hm
    refine q_tsIn C (dflt := 73) (lo := 37) (hi := 47) (offs := #[70, 73, 73, 73, 73, 64, 59, 73, 61, 73, 67]) (len := 59) (73) 74 (by decide +kernel) (by rw [c1_4]; decide) (by rw [c1_4]; decide) (by rw [c1_4]; decide) (by decide) ?_
    refine q_iconst C (n := 0) (v := 0) (by decide) (by decide +kernel) ?_
    exact q_riP hm K rfl (by decide +kernel)
  rw [if_neg c1_4] at hm
  by_cases c1_5 : a0 = 42
  · rw [if_pos c1_5] at hm
    refine q_tsIn C (dflt := 73) (lo := 37) (hi := 47) (offs := #[70, 73, 73, 73, 73, 64, 59, 73, 61, 73, 67]) (len := 59) (64) 65 (by decide +kernel) (by rw [c1_5]; decide) (by rw [c1_5]; decide) (by rw [c1_5]; decide) (by decide) ?_
    refine q_bipush C (n := 7) (v := 7) (by decide) (by decide +kernel) ?_
    exact q_riP hm K rfl (by decide +kernel)
  rw [if_neg c1_5] at hm
  by_cases c1_6 : a0 = 43
  · rw [if_pos c1_6] at hm
    refine q_tsIn C (dflt := 73) (lo := 37) (hi := 47) (offs := #[70, 73, 73, 73, 73, 64, 59, 73, 61, 73, 67]) (len := 59) (59) 60 (by decide +kernel) (by rw [c1_6]; decide) (by rw [c1_6]; decide) (by rw [c1_6]; decide) (by decide) ?_
    refine q_iconst C (n := 5) (v := 5) (by decide) (by decide +kernel) ?_
    exact q_riP hm K rfl (by decide +kernel)
  rw [if_neg c1_6] at hm
  by_cases c1_7 : a0 = 44
  · rw [if_pos c1_7] at hm
    refine q_tsIn C (dflt := 73) (lo := 37) (hi := 47) (offs := #[70, 73, 73, 73, 73, 64, 59, 73, 61, 73, 67]) (len := 59) (73) 74 (by decide +kernel) (by rw [c1_7]; decide) (by rw [c1_7]; decide) (by rw [c1_7]; decide) (by decide) ?_
    refine q_iconst C (n := 0) (v := 0) (by decide) (by decide +kernel) ?_
    exact q_riP hm K rfl (by decide +kernel)
  rw [if_neg c1_7] at hm
  by_cases c1_8 : a0 = 45
  · rw [if_pos c1_8] at hm
    refine q_tsIn C (dflt := 73) (lo := 37) (hi := 47) (offs := #[70, 73, 73, 73, 73, 64, 59, 73, 61, 73, 67]) (len := 59) (61) 62 (by decide +kernel) (by rw [c1_8]; decide) (by rw [c1_8]; decide) (by rw [c1_8]; decide) (by decide) ?_
    refine q_bipush C (n := 6) (v := 6) (by decide) (by decide +kernel) ?_
    exact q_riP hm K rfl (by decide +kernel)
  rw [if_neg c1_8] at hm
  by_cases c1_9 : a0 = 46
  · rw [if_pos c1_9] at hm
    refine q_tsIn C (dflt := 73) (lo := 37) (hi := 47) (offs := #[70, 73, 73, 73, 73, 64, 59, 73, 61, 73, 67]) (len := 59) (73) 74 (by decide +kernel) (by rw [c1_9]; decide) (by rw [c1_9]; decide) (by rw [c1_9]; decide) (by decide) ?_
    refine q_iconst C (n := 0) (v := 0) (by decide) (by decide +kernel) ?_
    exact q_riP hm K rfl (by decide +kernel)
  rw [if_neg c1_9] at hm
  by_cases c1_10 : a0 = 47
  · rw [if_pos c1_10] at hm
    refine q_tsIn C (dflt := 73) (lo := 37) (hi := 47) (offs := #[70, 73, 73, 73, 73, 64, 59, 73, 61, 73, 67]) (len := 59) (67) 68 (by decide +kernel) (by rw [c1_10]; decide) (by rw [c1_10]; decide) (by rw [c1_10]; decide) (by decide) ?_
    refine q_bipush C (n := 8) (v := 8) (by decide) (by decide +kernel) ?_
    exact q_riP hm K rfl (by decide +kernel)
  rw [if_neg c1_10] at hm
  have nc1_0 := lv_neT c1_0 (show (37 : Int32).toInt = 37 from by decide)
  have nc1_1 := lv_neT c1_1 (show (38 : Int32).toInt = 38 from by decide)
  have nc1_2 := lv_neT c1_2 (show (39 : Int32).toInt = 39 from by decide)
  have nc1_3 := lv_neT c1_3 (show (40 : Int32).toInt = 40 from by decide)
  have nc1_4 := lv_neT c1_4 (show (41 : Int32).toInt = 41 from by decide)
  have nc1_5 := lv_neT c1_5 (show (42 : Int32).toInt = 42 from by decide)
  have nc1_6 := lv_neT c1_6 (show (43 : Int32).toInt = 43 from by decide)
  have nc1_7 := lv_neT c1_7 (show (44 : Int32).toInt = 44 from by decide)
  have nc1_8 := lv_neT c1_8 (show (45 : Int32).toInt = 45 from by decide)
  have nc1_9 := lv_neT c1_9 (show (46 : Int32).toInt = 46 from by decide)
  have nc1_10 := lv_neT c1_10 (show (47 : Int32).toInt = 47 from by decide)
  refine q_tsOut C (dflt := 73) (lo := 37) (hi := 47) (offs := #[70, 73, 73, 73, 73, 64, 59, 73, 61, 73, 67]) (len := 59) 74 (by decide +kernel) (by omega) (by decide) ?_
  refine q_iconst C (n := 0) (v := 0) (by decide) (by decide +kernel) ?_
  exact q_riP hm K rfl (by decide +kernel)
def m_X6_comparison (a0 : Int32) : Option Int32 :=
  if a0 = 60 then
    some ((10 : Int32))
  else
  if a0 = 61 then
    some ((12 : Int32))
  else
  if a0 = 62 then
    some ((14 : Int32))
  else
  if a0 = 316 then
    some ((11 : Int32))
  else
  if a0 = 318 then
    some ((13 : Int32))
  else
  some ((0 : Int32))
set_option maxRecDepth 20000 in
set_option maxHeartbeats 1000000 in
theorem c_X6_comparison (l : Launch) (base : Nat) (D : va_G) (tc : Nat → ClassId) (sz : Nat) (h0 : q_H) (a0 : Int32) {r : Int32} (hm : m_X6_comparison a0 = some r) : q_M l yX6_comparison cX6_comparison 1 (some .int) 0 0 0 0 base D tc [.int a0] sz h0 (some (.int r)) sz h0 := by
  refine q_starti (by decide) (Nat.le_of_ble_eq_true rfl) (fun Γ B K => ?_)
  obtain ⟨C, Rm, -⟩ := B
  have C : q_C Γ cX6_comparison RX6 := C
  show q_V Γ sz 0 0 h0 [(0, .int a0)] [] 0
  unfold m_X6_comparison at hm
  refine q_iload_n C (k4 := 0) 0 rfl (by decide +kernel) ?_
  by_cases c1_0 : a0 = 60
  · rw [if_pos c1_0] at hm
    refine q_ls C (dflt := 66) (ps := #[(60, 51), (61, 57), (62, 63), (316, 54), (318, 60)]) (len := 51) (51) 52 (by decide +kernel) (by decide) (by rw [c1_0]; decide) (by decide) ?_
    refine q_bipush C (n := 10) (v := 10) (by decide) (by decide +kernel) ?_
    exact q_riP hm K rfl (by decide +kernel)
  rw [if_neg c1_0] at hm
  by_cases c1_1 : a0 = 61
  · rw [if_pos c1_1] at hm
    refine q_ls C (dflt := 66) (ps := #[(60, 51), (61, 57), (62, 63), (316, 54), (318, 60)]) (len := 51) (57) 58 (by decide +kernel) (by decide) (by rw [c1_1]; decide) (by decide) ?_
    refine q_bipush C (n := 12) (v := 12) (by decide) (by decide +kernel) ?_
    exact q_riP hm K rfl (by decide +kernel)
  rw [if_neg c1_1] at hm
  by_cases c1_2 : a0 = 62
  · rw [if_pos c1_2] at hm
    refine q_ls C (dflt := 66) (ps := #[(60, 51), (61, 57), (62, 63), (316, 54), (318, 60)]) (len := 51) (63) 64 (by decide +kernel) (by decide) (by rw [c1_2]; decide) (by decide) ?_
    refine q_bipush C (n := 14) (v := 14) (by decide) (by decide +kernel) ?_
    exact q_riP hm K rfl (by decide +kernel)
  rw [if_neg c1_2] at hm
  by_cases c1_3 : a0 = 316
  · rw [if_pos c1_3] at hm
    refine q_ls C (dflt := 66) (ps := #[(60, 51), (61, 57), (62, 63), (316, 54), (318, 60)]) (len := 51) (54) 55 (by decide +kernel) (by decide) (by rw [c1_3]; decide) (by decide) ?_
    refine q_bipush C (n := 11) (v := 11) (by decide) (by decide +kernel) ?_
    exact q_riP hm K rfl (by decide +kernel)
  rw [if_neg c1_3] at hm
  by_cases c1_4 : a0 = 318
  · rw [if_pos c1_4] at hm
    refine q_ls C (dflt := 66) (ps := #[(60, 51), (61, 57), (62, 63), (316, 54), (318, 60)]) (len := 51) (60) 61 (by decide +kernel) (by decide) (by rw [c1_4]; decide) (by decide) ?_
    refine q_bipush C (n := 13) (v := 13) (by decide) (by decide +kernel) ?_
    exact q_riP hm K rfl (by decide +kernel)
  rw [if_neg c1_4] at hm
  refine q_ls C (dflt := 66) (ps := #[(60, 51), (61, 57), (62, 63), (316, 54), (318, 60)]) (len := 51) (66) 67 (by decide +kernel) (by decide) ((lv_osw (k := 60) c1_0 (by decide)).trans ((lv_osw (k := 61) c1_1 (by decide)).trans ((lv_osw (k := 62) c1_2 (by decide)).trans ((lv_osw (k := 316) c1_3 (by decide)).trans ((lv_osw (k := 318) c1_4 (by decide)).trans (rfl)))))) (by decide) ?_
  refine q_iconst C (n := 0) (v := 0) (by decide) (by decide +kernel) ?_
  exact q_riP hm K rfl (by decide +kernel)
def m_X7_mark (h : q_H) (a0 : Nat) : Option q_H :=
  (q_gi h a0 7 4).bind fun v1 =>
  (q_gn h a0 7 3).bind fun v2 =>
  (q_ln h v2).bind fun v3 =>
  if v3 ≤ v1 then
    some h
  else
    (q_gn h a0 7 3).bind fun v4 =>
    (q_gi h a0 7 4).bind fun v5 =>
    (q_gi h a0 7 2).bind fun v6 =>
    (q_si h v4 1 v5 v6).bind fun h7 =>
    (q_gi h7 a0 7 4).bind fun v8 =>
    (q_pf h7 a0 7 4 (.int ((v8 + (1 : Int32))))).bind fun h9 =>
    some h9
set_option maxRecDepth 20000 in
set_option maxHeartbeats 1000000 in
theorem c_X7_mark (l : Launch) (base : Nat) (D : va_G) (tc : Nat → ClassId) (sz : Nat) (h : q_H) (a0 : Nat) {h' : q_H} (hm : m_X7_mark h a0 = some h') : q_M l yX7_mark cX7_mark 1 none 0 0 0 0 base D tc [.ref a0] sz h none sz h' := by
  refine q_startv (by decide) (Nat.le_of_ble_eq_true rfl) (fun Γ B K => ?_)
  obtain ⟨C, Rm, -⟩ := B
  have C : q_C Γ cX7_mark RX7 := C
  show q_V Γ sz 0 0 h [(0, .ref a0)] [] 0
  unfold m_X7_mark at hm
  refine q_aload_n C (k4 := 0) 0 rfl (by decide +kernel) ?_
  refine q_geti C fl_7_31 hm (by decide +kernel) (fun v1 hm => ?_)
  refine q_aload_n C (k4 := 0) 0 rfl (by decide +kernel) ?_
  refine q_getn C fl_7_21 hm (by decide +kernel) (fun v2 hm => ?_)
  refine q_len C hm (by decide +kernel) (fun v3 hm => ?_)
  refine q_icmp_ge C (off := 26) 35 hm (by decide +kernel) (by decide) (fun _ hm => ?_) (fun _ hm => ?_)
  · exact q_rvS hm K (by decide +kernel)
  · refine q_aload_n C (k4 := 0) 0 rfl (by decide +kernel) ?_
    refine q_getn C fl_7_21 hm (by decide +kernel) (fun v4 hm => ?_)
    refine q_aload_n C (k4 := 0) 0 rfl (by decide +kernel) ?_
    refine q_geti C fl_7_31 hm (by decide +kernel) (fun v5 hm => ?_)
    refine q_aload_n C (k4 := 0) 0 rfl (by decide +kernel) ?_
    refine q_geti C fl_7_27 hm (by decide +kernel) (fun v6 hm => ?_)
    refine q_iw C hm (by decide +kernel) (fun h7 hm => ?_)
    refine q_aload_n C (k4 := 0) 0 rfl (by decide +kernel) ?_
    refine q_dup C rfl (by decide +kernel) ?_
    refine q_geti C fl_7_31 hm (by decide +kernel) (fun v8 hm => ?_)
    refine q_iconst C (n := 1) (v := 1) (by decide) (by decide +kernel) ?_
    refine q_iadd C (by decide +kernel) ?_
    refine q_putf C fl_7_31 hm rfl rfl (by decide +kernel) (fun h9 hm => ?_)
    exact q_rvS hm K (by decide +kernel)
def m_X7_isValueWord (a0 : Int32) : Option Int32 :=
  if a0 < (700 : Int32) then
    some ((0 : Int32))
  else
    if (711 : Int32) ≤ a0 then
      some ((0 : Int32))
    else
      some ((1 : Int32))
set_option maxRecDepth 20000 in
set_option maxHeartbeats 1000000 in
theorem c_X7_isValueWord (l : Launch) (base : Nat) (D : va_G) (tc : Nat → ClassId) (sz : Nat) (h0 : q_H) (a0 : Int32) {r : Int32} (hm : m_X7_isValueWord a0 = some r) : q_M l yX7_isValueWord cX7_isValueWord 1 (some .boolean) 0 0 0 0 base D tc [.int a0] sz h0 (some (.int r)) sz h0 := by
  refine q_starti (by decide) (Nat.le_of_ble_eq_true rfl) (fun Γ B K => ?_)
  obtain ⟨C, Rm, -⟩ := B
  have C : q_C Γ cX7_isValueWord RX7 := C
  show q_V Γ sz 0 0 h0 [(0, .int a0)] [] 0
  unfold m_X7_isValueWord at hm
  refine q_iload_n C (k4 := 0) 0 rfl (by decide +kernel) ?_
  refine q_sipush C (n := 700) (v := 700) (by decide) (by decide +kernel) ?_
  refine q_icmp_lt C (off := 14) 18 hm (by decide +kernel) (by decide) (fun _ hm => ?_) (fun _ hm => ?_)
  · refine q_iconst C (n := 0) (v := 0) (by decide) (by decide +kernel) ?_
    exact q_riP hm K q_z0 (by decide +kernel)
  · refine q_iload_n C (k4 := 0) 0 rfl (by decide +kernel) ?_
    refine q_sipush C (n := 711) (v := 711) (by decide) (by decide +kernel) ?_
    refine q_icmp_ge C (off := 7) 18 hm (by decide +kernel) (by decide) (fun _ hm => ?_) (fun _ hm => ?_)
    · refine q_iconst C (n := 0) (v := 0) (by decide) (by decide +kernel) ?_
      exact q_riP hm K q_z0 (by decide +kernel)
    · refine q_iconst C (n := 1) (v := 1) (by decide) (by decide +kernel) ?_
      refine q_goto C (off := 4) 19 (by decide +kernel) (by decide) ?_
      exact q_riP hm K q_z1 (by decide +kernel)
def m_X7_write (h : q_H) (a0 : Nat) (a1 : Int32) (a2 : Int32) : Option q_H :=
  (q_gi h a0 7 2).bind fun v1 =>
  (q_gn h a0 7 1).bind fun v2 =>
  (q_ln h v2).bind fun v3 =>
  if v3 ≤ v1 then
    some h
  else
    (q_gn h a0 7 1).bind fun v4 =>
    (q_gi h a0 7 2).bind fun v5 =>
    (q_si h v4 1 v5 ((a1 + ((32 : Int32) * a2)))).bind fun h6 =>
    (q_gi h6 a0 7 2).bind fun v7 =>
    (q_pf h6 a0 7 2 (.int ((v7 + (1 : Int32))))).bind fun h8 =>
    some h8
set_option maxRecDepth 20000 in
set_option maxHeartbeats 1000000 in
theorem c_X7_write (l : Launch) (base : Nat) (D : va_G) (tc : Nat → ClassId) (sz : Nat) (h : q_H) (a0 : Nat) (a1 : Int32) (a2 : Int32) {h' : q_H} (hm : m_X7_write h a0 a1 a2 = some h') : q_M l yX7_write cX7_write 3 none 0 0 0 0 base D tc [.ref a0, .int a1, .int a2] sz h none sz h' := by
  refine q_startv (by decide) (Nat.le_of_ble_eq_true rfl) (fun Γ B K => ?_)
  obtain ⟨C, Rm, -⟩ := B
  have C : q_C Γ cX7_write RX7 := C
  show q_V Γ sz 0 0 h [(0, .ref a0), (1, .int a1), (2, .int a2)] [] 0
  unfold m_X7_write at hm
  refine q_aload_n C (k4 := 0) 0 rfl (by decide +kernel) ?_
  refine q_geti C fl_7_27 hm (by decide +kernel) (fun v1 hm => ?_)
  refine q_aload_n C (k4 := 0) 0 rfl (by decide +kernel) ?_
  refine q_getn C fl_7_17 hm (by decide +kernel) (fun v2 hm => ?_)
  refine q_len C hm (by decide +kernel) (fun v3 hm => ?_)
  refine q_icmp_ge C (off := 28) 37 hm (by decide +kernel) (by decide) (fun _ hm => ?_) (fun _ hm => ?_)
  · exact q_rvS hm K (by decide +kernel)
  · refine q_aload_n C (k4 := 0) 0 rfl (by decide +kernel) ?_
    refine q_getn C fl_7_17 hm (by decide +kernel) (fun v4 hm => ?_)
    refine q_aload_n C (k4 := 0) 0 rfl (by decide +kernel) ?_
    refine q_geti C fl_7_27 hm (by decide +kernel) (fun v5 hm => ?_)
    refine q_iload_n C (k4 := 1) 1 rfl (by decide +kernel) ?_
    refine q_bipush C (n := 32) (v := 32) (by decide) (by decide +kernel) ?_
    refine q_iload_n C (k4 := 2) 2 rfl (by decide +kernel) ?_
    refine q_imul C (by decide +kernel) ?_
    refine q_iadd C (by decide +kernel) ?_
    refine q_iw C hm (by decide +kernel) (fun h6 hm => ?_)
    refine q_aload_n C (k4 := 0) 0 rfl (by decide +kernel) ?_
    refine q_dup C rfl (by decide +kernel) ?_
    refine q_geti C fl_7_27 hm (by decide +kernel) (fun v7 hm => ?_)
    refine q_iconst C (n := 1) (v := 1) (by decide) (by decide +kernel) ?_
    refine q_iadd C (by decide +kernel) ?_
    refine q_putf C fl_7_27 hm rfl rfl (by decide +kernel) (fun h8 hm => ?_)
    exact q_rvS hm K (by decide +kernel)
def m_X7_readValue_126  (h : q_H) (x0 : Nat) (s0 : Int32) (s1 : Int32) (s2 : Nat) : Option (Int32 × q_H) :=
  (q_ca 7 h s2 (m_X7_write h s2 s1 s0)).bind fun h29 =>
  (q_gn h29 x0 7 0).bind fun v30 =>
  (q_ca 3 h29 v30 (m_X3_next h29 v30)).bind fun h32 =>
  some ((1 : Int32), h32)
set_option maxRecDepth 20000 in
set_option maxHeartbeats 1000000 in
theorem v_X7_readValue_126 {Γ : q_G} {sz : Nat} {r : Int32} {h' : q_H} (C : q_C Γ cX7_readValue RX7) (Rm : q_Rm Γ 2 1 22 0 0)  (K : narrow .boolean (.int r) = .int r → q_K Γ cX7_readValue .ireturn sz h' 0 0 [.int r])  : ∀ (h : q_H) (x0 : Nat) (s0 : Int32) (s1 : Int32) (s2 : Nat), m_X7_readValue_126 h x0 s0 s1 s2 = some (r, h') → q_V Γ sz 0 0 h [(0, .ref x0)] [.int s0, .int s1, .ref s2] 126 := by
  intro h x0 s0 s1 s2 hm
  unfold m_X7_readValue_126 at hm
  refine q_vvS C Rm (As := [.int s1, .int s0]) (rest := []) Y_X7_write Yv_X7_write ml_X7_85 (by decide) (by decide) hm (fun h29 e9 => c_X7_write _ _ _ _ _ _ _ _ _ e9) rfl rfl (Nat.le_of_ble_eq_true rfl) (by decide +kernel) (fun h29 hm => ?_)
  refine q_aload_n C (k4 := 0) 0 rfl (by decide +kernel) ?_
  refine q_getn C fl_7_9 hm (by decide +kernel) (fun v30 hm => ?_)
  refine q_vvS C Rm (As := []) (rest := []) Y_X3_next Yv_X3_next ml_X7_73 (by decide) (by decide) hm (fun h32 e9 => c_X3_next _ _ _ _ _ _ _ e9) rfl rfl (Nat.le_of_ble_eq_true rfl) (by decide +kernel) (fun h32 hm => ?_)
  refine q_iconst C (n := 1) (v := 1) (by decide) (by decide +kernel) ?_
  exact q_riS hm K q_z1 (by decide +kernel)
def m_X7_readValue_101  (h : q_H) (x0 : Nat) (x1 : Int32) (s0 : Int32) (s1 : Nat) : Option (Int32 × q_H) :=
  if x1 = 0 then
    (q_gn h x0 7 0).bind fun v24 =>
    (q_gi h v24 3 7).bind fun v25 =>
    m_X7_readValue_126 h x0 v25 s0 s1
  else
    (q_gn h x0 7 0).bind fun v26 =>
    (q_gi h v26 3 6).bind fun v27 =>
    m_X7_readValue_126 h x0 ((v27 - (700 : Int32))) s0 s1
set_option maxRecDepth 20000 in
set_option maxHeartbeats 1000000 in
theorem v_X7_readValue_101 {Γ : q_G} {sz : Nat} {r : Int32} {h' : q_H} (C : q_C Γ cX7_readValue RX7) (Rm : q_Rm Γ 2 1 22 0 0)  (K : narrow .boolean (.int r) = .int r → q_K Γ cX7_readValue .ireturn sz h' 0 0 [.int r])  : ∀ (h : q_H) (x0 : Nat) (x1 : Int32) (s0 : Int32) (s1 : Nat), m_X7_readValue_101 h x0 x1 s0 s1 = some (r, h') → q_V Γ sz 0 0 h [(0, .ref x0), (1, .int x1)] [.int s0, .ref s1] 101 := by
  intro h x0 x1 s0 s1 hm
  unfold m_X7_readValue_101 at hm
  refine q_iload_n C (k4 := 1) 1 rfl (by decide +kernel) ?_
  refine q_if_eq C (off := 17) 119 hm (by decide +kernel) (by decide) (fun _ hm => ?_) (fun _ hm => ?_)
  · refine q_aload_n C (k4 := 0) 0 rfl (by decide +kernel) ?_
    refine q_getn C fl_7_9 hm (by decide +kernel) (fun v24 hm => ?_)
    refine q_geti C fl_7_96 hm (by decide +kernel) (fun v25 hm => ?_)
    refine q_loc [0] rfl ?_
    exact v_X7_readValue_126 C Rm K _ _ _ _ _ hm
  · refine q_aload_n C (k4 := 0) 0 rfl (by decide +kernel) ?_
    refine q_getn C fl_7_9 hm (by decide +kernel) (fun v26 hm => ?_)
    refine q_geti C fl_7_67 hm (by decide +kernel) (fun v27 hm => ?_)
    refine q_sipush C (n := 700) (v := 700) (by decide) (by decide +kernel) ?_
    refine q_isub C (by decide +kernel) ?_
    refine q_goto C (off := 10) 126 (by decide +kernel) (by decide) ?_
    refine q_loc [0] rfl ?_
    exact v_X7_readValue_126 C Rm K _ _ _ _ _ hm
def m_X7_readValue_61  (h : q_H) (x0 : Nat) (x1 : Int32) : Option (Int32 × q_H) :=
  (q_gi h x0 7 8).bind fun v17 =>
  if v17 < (60 : Int32) then
    (q_gi h x0 7 8).bind fun v18 =>
    (q_pf h x0 7 8 (.int ((v18 + (1 : Int32))))).bind fun h19 =>
    if x1 = 0 then
      m_X7_readValue_101 h19 x0 x1 ((15 : Int32)) x0
    else
      m_X7_readValue_101 h19 x0 x1 ((16 : Int32)) x0
  else
    (q_gn h x0 7 0).bind fun v20 =>
    (q_ca 3 h v20 (m_X3_refuse h v20 ((3 : Int32)))).bind fun (r21, h22) =>
    some (r21, h22)
set_option maxRecDepth 20000 in
set_option maxHeartbeats 1000000 in
theorem v_X7_readValue_61 {Γ : q_G} {sz : Nat} {r : Int32} {h' : q_H} (C : q_C Γ cX7_readValue RX7) (Rm : q_Rm Γ 2 1 22 0 0)  (K : narrow .boolean (.int r) = .int r → q_K Γ cX7_readValue .ireturn sz h' 0 0 [.int r])  : ∀ (h : q_H) (x0 : Nat) (x1 : Int32), m_X7_readValue_61 h x0 x1 = some (r, h') → q_V Γ sz 0 0 h [(0, .ref x0), (1, .int x1)] [] 61 := by
  intro h x0 x1 hm
  unfold m_X7_readValue_61 at hm
  refine q_aload_n C (k4 := 0) 0 rfl (by decide +kernel) ?_
  refine q_geti C fl_7_34 hm (by decide +kernel) (fun v17 hm => ?_)
  refine q_bipush C (n := 60) (v := 60) (by decide) (by decide +kernel) ?_
  refine q_icmp_lt C (off := 12) 79 hm (by decide +kernel) (by decide) (fun _ hm => ?_) (fun _ hm => ?_)
  · refine q_aload_n C (k4 := 0) 0 rfl (by decide +kernel) ?_
    refine q_dup C rfl (by decide +kernel) ?_
    refine q_geti C fl_7_34 hm (by decide +kernel) (fun v18 hm => ?_)
    refine q_iconst C (n := 1) (v := 1) (by decide) (by decide +kernel) ?_
    refine q_iadd C (by decide +kernel) ?_
    refine q_putf C fl_7_34 hm rfl rfl (by decide +kernel) (fun h19 hm => ?_)
    refine q_aload_n C (k4 := 0) 0 rfl (by decide +kernel) ?_
    refine q_iload_n C (k4 := 1) 1 rfl (by decide +kernel) ?_
    refine q_if_eq C (off := 8) 99 hm (by decide +kernel) (by decide) (fun _ hm => ?_) (fun _ hm => ?_)
    · refine q_bipush C (n := 15) (v := 15) (by decide) (by decide +kernel) ?_
      exact v_X7_readValue_101 C Rm K _ _ _ _ _ hm
    · refine q_bipush C (n := 16) (v := 16) (by decide) (by decide +kernel) ?_
      refine q_goto C (off := 5) 101 (by decide +kernel) (by decide) ?_
      exact v_X7_readValue_101 C Rm K _ _ _ _ _ hm
  · refine q_aload_n C (k4 := 0) 0 rfl (by decide +kernel) ?_
    refine q_getn C fl_7_9 hm (by decide +kernel) (fun v20 hm => ?_)
    refine q_iconst C (n := 3) (v := 3) (by decide) (by decide +kernel) ?_
    refine q_viS C Rm (As := [.int ((3 : Int32))]) (rest := []) Y_X3_refuse Yv_X3_refuse ml_X7_70 (by decide) (by decide) hm (fun r21 h22 e9 => c_X3_refuse _ _ _ _ _ _ _ _ e9) rfl rfl (Nat.le_of_ble_eq_true rfl) (by decide +kernel) (fun r21 h22 hm z23 => ?_)
    exact q_riS hm K z23 (by decide +kernel)
def m_X7_readValue_37  (h : q_H) (x0 : Nat) (x1 : Int32) : Option (Int32 × q_H) :=
  if x1 = 0 then
    (q_gn h x0 7 0).bind fun v11 =>
    (q_gi h v11 3 7).bind fun v12 =>
    if v12 = (-1 : Int32) then
      (q_gn h x0 7 0).bind fun v13 =>
      (q_ca 3 h v13 (m_X3_refuse h v13 ((1 : Int32)))).bind fun (r14, h15) =>
      some (r14, h15)
    else
      m_X7_readValue_61 h x0 x1
  else
    m_X7_readValue_61 h x0 x1
set_option maxRecDepth 20000 in
set_option maxHeartbeats 1000000 in
theorem v_X7_readValue_37 {Γ : q_G} {sz : Nat} {r : Int32} {h' : q_H} (C : q_C Γ cX7_readValue RX7) (Rm : q_Rm Γ 2 1 22 0 0)  (K : narrow .boolean (.int r) = .int r → q_K Γ cX7_readValue .ireturn sz h' 0 0 [.int r])  : ∀ (h : q_H) (x0 : Nat) (x1 : Int32), m_X7_readValue_37 h x0 x1 = some (r, h') → q_V Γ sz 0 0 h [(0, .ref x0), (1, .int x1)] [] 37 := by
  intro h x0 x1 hm
  unfold m_X7_readValue_37 at hm
  refine q_iload_n C (k4 := 1) 1 rfl (by decide +kernel) ?_
  refine q_if_ne C (off := 23) 61 hm (by decide +kernel) (by decide) (fun _ hm => ?_) (fun _ hm => ?_)
  · exact v_X7_readValue_61 C Rm K _ _ _ hm
  · refine q_aload_n C (k4 := 0) 0 rfl (by decide +kernel) ?_
    refine q_getn C fl_7_9 hm (by decide +kernel) (fun v11 hm => ?_)
    refine q_geti C fl_7_96 hm (by decide +kernel) (fun v12 hm => ?_)
    refine q_iconst C (n := (-1)) (v := (-1)) (by decide) (by decide +kernel) ?_
    refine q_icmp_ne C (off := 12) 61 hm (by decide +kernel) (by decide) (fun _ hm => ?_) (fun _ hm => ?_)
    · exact v_X7_readValue_61 C Rm K _ _ _ hm
    · refine q_aload_n C (k4 := 0) 0 rfl (by decide +kernel) ?_
      refine q_getn C fl_7_9 hm (by decide +kernel) (fun v13 hm => ?_)
      refine q_iconst C (n := 1) (v := 1) (by decide) (by decide +kernel) ?_
      refine q_viS C Rm (As := [.int ((1 : Int32))]) (rest := []) Y_X3_refuse Yv_X3_refuse ml_X7_70 (by decide) (by decide) hm (fun r14 h15 e9 => c_X3_refuse _ _ _ _ _ _ _ _ e9) rfl rfl (Nat.le_of_ble_eq_true rfl) (by decide +kernel) (fun r14 h15 hm z16 => ?_)
      exact q_riS hm K z16 (by decide +kernel)
def m_X7_readValue (h : q_H) (a0 : Nat) : Option (Int32 × q_H) :=
  (q_gn h a0 7 0).bind fun v1 =>
  (q_gi h v1 3 6).bind fun v2 =>
  (m_X7_isValueWord v2).bind fun r3 =>
  if r3 = 0 then
    (q_gn h a0 7 0).bind fun v5 =>
    (q_gi h v5 3 6).bind fun v6 =>
    if v6 = (601 : Int32) then
      m_X7_readValue_37 h a0 r3
    else
      (q_gn h a0 7 0).bind fun v7 =>
      (q_ca 3 h v7 (m_X3_refuse h v7 ((0 : Int32)))).bind fun (r8, h9) =>
      some (r8, h9)
  else
    m_X7_readValue_37 h a0 r3
set_option maxRecDepth 20000 in
set_option maxHeartbeats 1000000 in
theorem c_X7_readValue (l : Launch) (base : Nat) (D : va_G) (tc : Nat → ClassId) (sz : Nat) (h : q_H) (a0 : Nat) {r : Int32} {h' : q_H} (hm : m_X7_readValue h a0 = some (r, h')) : q_M l yX7_readValue cX7_readValue 2 (some .boolean) 1 22 0 0 base D tc [.ref a0] sz h (some (.int r)) sz h' := by
  refine q_starti (by decide) (Nat.le_of_ble_eq_true rfl) (fun Γ B K => ?_)
  obtain ⟨C, Rm, -⟩ := B
  have C : q_C Γ cX7_readValue RX7 := C
  show q_V Γ sz 0 0 h [(0, .ref a0)] [] 0
  unfold m_X7_readValue at hm
  refine q_aload_n C (k4 := 0) 0 rfl (by decide +kernel) ?_
  refine q_getn C fl_7_9 hm (by decide +kernel) (fun v1 hm => ?_)
  refine q_geti C fl_7_67 hm (by decide +kernel) (fun v2 hm => ?_)
  refine q_siP C Rm (As := [.int v2]) (rest := []) Y_X7_isValueWord Ys_X7_isValueWord ml_X7_93 (by decide) (by decide) hm (fun r9 e9 => c_X7_isValueWord _ _ _ _ _ _ _ e9) rfl rfl (Nat.le_of_ble_eq_true rfl) (by decide +kernel) (fun r3 hm z4 => ?_)
  refine q_istore_n C Rm.1 (k4 := 1) (i := 1) rfl (lv' := [(1, .int r3), (0, .ref a0)]) rfl (by decide) (by decide +kernel) ?_
  refine q_iload_n C (k4 := 1) 0 rfl (by decide +kernel) ?_
  refine q_if_ne C (off := 25) 37 hm (by decide +kernel) (by decide) (fun _ hm => ?_) (fun _ hm => ?_)
  · refine q_loc [1, 0] rfl ?_
    exact v_X7_readValue_37 C Rm K _ _ _ hm
  · refine q_aload_n C (k4 := 0) 1 rfl (by decide +kernel) ?_
    refine q_getn C fl_7_9 hm (by decide +kernel) (fun v5 hm => ?_)
    refine q_geti C fl_7_67 hm (by decide +kernel) (fun v6 hm => ?_)
    refine q_sipush C (n := 601) (v := 601) (by decide) (by decide +kernel) ?_
    refine q_icmp_eq C (off := 12) 37 hm (by decide +kernel) (by decide) (fun _ hm => ?_) (fun _ hm => ?_)
    · refine q_loc [1, 0] rfl ?_
      exact v_X7_readValue_37 C Rm K _ _ _ hm
    · refine q_aload_n C (k4 := 0) 1 rfl (by decide +kernel) ?_
      refine q_getn C fl_7_9 hm (by decide +kernel) (fun v7 hm => ?_)
      refine q_iconst C (n := 0) (v := 0) (by decide) (by decide +kernel) ?_
      refine q_viS C Rm (As := [.int ((0 : Int32))]) (rest := []) Y_X3_refuse Yv_X3_refuse ml_X7_70 (by decide) (by decide) hm (fun r8 h9 e9 => c_X3_refuse _ _ _ _ _ _ _ _ e9) rfl rfl (Nat.le_of_ble_eq_true rfl) (by decide +kernel) (fun r8 h9 hm z10 => ?_)
      exact q_riS hm K z10 (by decide +kernel)
def m_X7_readSum_72 (k6 : q_H → Nat → Int32 → Int32 → Int32 → Option q_H) (h : q_H) (x0 : Nat) (x1 : Int32) (x2 : Int32) (x3 : Int32) (x4 : Int32) : Option q_H :=
  if x4 = 0 then
    some h
  else
    (q_gn h x0 7 0).bind fun v12 =>
    (q_ca 3 h v12 (m_X3_next h v12)).bind fun h14 =>
    k6 h14 x0 x1 x2 ((x3 + (1 : Int32)))
set_option maxRecDepth 20000 in
set_option maxHeartbeats 1000000 in
theorem v_X7_readSum_72 {Γ : q_G} {sz : Nat} {h' : q_H} (C : q_C Γ cX7_readSum RX7) (Rm : q_Rm Γ 5 2 43 0 0) {k6 : q_H → Nat → Int32 → Int32 → Int32 → Option q_H} (K : q_K Γ cX7_readSum .return_ sz h' 0 0 []) (hk6 : ∀ (h : q_H) (x0 : Nat) (x1 : Int32) (x2 : Int32) (x3 : Int32), k6 h x0 x1 x2 x3 = some h' → q_V Γ sz 0 0 h [(0, .ref x0), (1, .int x1), (2, .int x2), (3, .int x3)] [] 6) : ∀ (h : q_H) (x0 : Nat) (x1 : Int32) (x2 : Int32) (x3 : Int32) (x4 : Int32), m_X7_readSum_72 k6 h x0 x1 x2 x3 x4 = some h' → q_V Γ sz 0 0 h [(0, .ref x0), (1, .int x1), (2, .int x2), (3, .int x3), (4, .int x4)] [] 72 := by
  intro h x0 x1 x2 x3 x4 hm
  unfold m_X7_readSum_72 at hm
  refine q_iload C (i := 4) 4 rfl (by decide +kernel) ?_
  refine q_if_ne C (off := 4) 78 hm (by decide +kernel) (by decide) (fun _ hm => ?_) (fun _ hm => ?_)
  · refine q_aload_n C (k4 := 0) 0 rfl (by decide +kernel) ?_
    refine q_getn C fl_7_9 hm (by decide +kernel) (fun v12 hm => ?_)
    refine q_vvS C Rm (As := []) (rest := []) Y_X3_next Yv_X3_next ml_X7_73 (by decide) (by decide) hm (fun h14 e9 => c_X3_next _ _ _ _ _ _ _ e9) rfl rfl (Nat.le_of_ble_eq_true rfl) (by decide +kernel) (fun h14 hm => ?_)
    refine q_iinc C Rm.1 (i := 3) (n := 1) (v := (x3 + (1 : Int32))) 3 rfl (q_inc _ (by decide)) (lv' := [(3, .int ((x3 + (1 : Int32)))), (0, .ref x0), (1, .int x1), (2, .int x2), (4, .int x4)]) rfl (by decide) (by decide +kernel) ?_
    refine q_goto C (off := -82) 6 (by decide +kernel) (by decide) ?_
    refine q_loc [1, 2, 3, 0] rfl ?_
    exact hk6 _ _ _ _ _ hm
  · exact q_rvS hm K (by decide +kernel)
def m_X7_readSum_69 (k6 : q_H → Nat → Int32 → Int32 → Int32 → Option q_H) (h : q_H) (x0 : Nat) (x2 : Int32) (x3 : Int32) (x4 : Int32) : Option q_H :=
  m_X7_readSum_72 k6 h x0 x4 x2 x3 x4
set_option maxRecDepth 20000 in
set_option maxHeartbeats 1000000 in
theorem v_X7_readSum_69 {Γ : q_G} {sz : Nat} {h' : q_H} (C : q_C Γ cX7_readSum RX7) (Rm : q_Rm Γ 5 2 43 0 0) {k6 : q_H → Nat → Int32 → Int32 → Int32 → Option q_H} (K : q_K Γ cX7_readSum .return_ sz h' 0 0 []) (hk6 : ∀ (h : q_H) (x0 : Nat) (x1 : Int32) (x2 : Int32) (x3 : Int32), k6 h x0 x1 x2 x3 = some h' → q_V Γ sz 0 0 h [(0, .ref x0), (1, .int x1), (2, .int x2), (3, .int x3)] [] 6) : ∀ (h : q_H) (x0 : Nat) (x2 : Int32) (x3 : Int32) (x4 : Int32), m_X7_readSum_69 k6 h x0 x2 x3 x4 = some h' → q_V Γ sz 0 0 h [(0, .ref x0), (2, .int x2), (3, .int x3), (4, .int x4)] [] 69 := by
  intro h x0 x2 x3 x4 hm
  unfold m_X7_readSum_69 at hm
  refine q_iload C (i := 4) 3 rfl (by decide +kernel) ?_
  refine q_istore_n C Rm.1 (k4 := 1) (i := 1) rfl (lv' := [(1, .int x4), (0, .ref x0), (2, .int x2), (3, .int x3), (4, .int x4)]) rfl (by decide) (by decide +kernel) ?_
  refine q_loc [1, 0, 2, 3, 4] rfl ?_
  exact v_X7_readSum_72 C Rm K hk6 _ _ _ _ _ _ hm
def m_X7_readSum_54 (k6 : q_H → Nat → Int32 → Int32 → Int32 → Option q_H) (h : q_H) (x0 : Nat) (x1 : Int32) (x3 : Int32) (x4 : Int32) (s0 : Int32) : Option q_H :=
  if s0 = 0 then
    if x1 = 0 then
      m_X7_readSum_69 k6 h x0 s0 x3 x4
    else
      (q_ca 7 h x0 (m_X7_write h x0 x1 ((0 : Int32)))).bind fun h11 =>
      m_X7_readSum_69 k6 h11 x0 s0 x3 x4
  else
    m_X7_readSum_72 k6 h x0 x1 s0 x3 x4
set_option maxRecDepth 20000 in
set_option maxHeartbeats 1000000 in
theorem v_X7_readSum_54 {Γ : q_G} {sz : Nat} {h' : q_H} (C : q_C Γ cX7_readSum RX7) (Rm : q_Rm Γ 5 2 43 0 0) {k6 : q_H → Nat → Int32 → Int32 → Int32 → Option q_H} (K : q_K Γ cX7_readSum .return_ sz h' 0 0 []) (hk6 : ∀ (h : q_H) (x0 : Nat) (x1 : Int32) (x2 : Int32) (x3 : Int32), k6 h x0 x1 x2 x3 = some h' → q_V Γ sz 0 0 h [(0, .ref x0), (1, .int x1), (2, .int x2), (3, .int x3)] [] 6) : ∀ (h : q_H) (x0 : Nat) (x1 : Int32) (x3 : Int32) (x4 : Int32) (s0 : Int32), m_X7_readSum_54 k6 h x0 x1 x3 x4 s0 = some h' → q_V Γ sz 0 0 h [(0, .ref x0), (1, .int x1), (3, .int x3), (4, .int x4)] [.int s0] 54 := by
  intro h x0 x1 x3 x4 s0 hm
  unfold m_X7_readSum_54 at hm
  refine q_istore_n C Rm.1 (k4 := 2) (i := 2) rfl (lv' := [(2, .int s0), (0, .ref x0), (1, .int x1), (3, .int x3), (4, .int x4)]) rfl (by decide) (by decide +kernel) ?_
  refine q_iload_n C (k4 := 2) 0 rfl (by decide +kernel) ?_
  refine q_if_ne C (off := 16) 72 hm (by decide +kernel) (by decide) (fun _ hm => ?_) (fun _ hm => ?_)
  · refine q_loc [1, 2, 0, 3, 4] rfl ?_
    exact v_X7_readSum_72 C Rm K hk6 _ _ _ _ _ _ hm
  · refine q_iload_n C (k4 := 1) 2 rfl (by decide +kernel) ?_
    refine q_if_eq C (off := 9) 69 hm (by decide +kernel) (by decide) (fun _ hm => ?_) (fun _ hm => ?_)
    · refine q_loc [1, 0, 3, 4] rfl ?_
      exact v_X7_readSum_69 C Rm K hk6 _ _ _ _ _ hm
    · refine q_aload_n C (k4 := 0) 1 rfl (by decide +kernel) ?_
      refine q_iload_n C (k4 := 1) 2 rfl (by decide +kernel) ?_
      refine q_iconst C (n := 0) (v := 0) (by decide) (by decide +kernel) ?_
      refine q_vvS C Rm (As := [.int x1, .int ((0 : Int32))]) (rest := []) Y_X7_write Yv_X7_write ml_X7_85 (by decide) (by decide) hm (fun h11 e9 => c_X7_write _ _ _ _ _ _ _ _ _ e9) rfl rfl (Nat.le_of_ble_eq_true rfl) (by decide +kernel) (fun h11 hm => ?_)
      refine q_loc [1, 0, 3, 4] rfl ?_
      exact v_X7_readSum_69 C Rm K hk6 _ _ _ _ _ hm
def m_X7_readSum_29 (k6 : q_H → Nat → Int32 → Int32 → Int32 → Option q_H) (h : q_H) (x0 : Nat) (x1 : Int32) (x3 : Int32) : Option q_H :=
  (q_gn h x0 7 0).bind fun v6 =>
  (q_gi h v6 3 6).bind fun v7 =>
  (m_X6_arithmetic v7).bind fun r8 =>
  if r8 < (7 : Int32) then
    m_X7_readSum_54 k6 h x0 x1 x3 r8 ((0 : Int32))
  else
    m_X7_readSum_54 k6 h x0 x1 x3 r8 r8
set_option maxRecDepth 20000 in
set_option maxHeartbeats 1000000 in
theorem v_X7_readSum_29 {Γ : q_G} {sz : Nat} {h' : q_H} (C : q_C Γ cX7_readSum RX7) (Rm : q_Rm Γ 5 2 43 0 0) {k6 : q_H → Nat → Int32 → Int32 → Int32 → Option q_H} (K : q_K Γ cX7_readSum .return_ sz h' 0 0 []) (hk6 : ∀ (h : q_H) (x0 : Nat) (x1 : Int32) (x2 : Int32) (x3 : Int32), k6 h x0 x1 x2 x3 = some h' → q_V Γ sz 0 0 h [(0, .ref x0), (1, .int x1), (2, .int x2), (3, .int x3)] [] 6) : ∀ (h : q_H) (x0 : Nat) (x1 : Int32) (x3 : Int32), m_X7_readSum_29 k6 h x0 x1 x3 = some h' → q_V Γ sz 0 0 h [(0, .ref x0), (1, .int x1), (3, .int x3)] [] 29 := by
  intro h x0 x1 x3 hm
  unfold m_X7_readSum_29 at hm
  refine q_aload_n C (k4 := 0) 0 rfl (by decide +kernel) ?_
  refine q_getn C fl_7_9 hm (by decide +kernel) (fun v6 hm => ?_)
  refine q_geti C fl_7_67 hm (by decide +kernel) (fun v7 hm => ?_)
  refine q_siP C Rm (As := [.int v7]) (rest := []) Y_X6_arithmetic Ys_X6_arithmetic ml_X7_89 (by decide) (by decide) hm (fun r9 e9 => c_X6_arithmetic _ _ _ _ _ _ _ e9) rfl rfl (Nat.le_of_ble_eq_true rfl) (by decide +kernel) (fun r8 hm z9 => ?_)
  refine q_istore C Rm.1 (i := 4) (lv' := [(4, .int r8), (0, .ref x0), (1, .int x1), (3, .int x3)]) rfl (by decide) (by decide +kernel) ?_
  refine q_iload C (i := 4) 0 rfl (by decide +kernel) ?_
  refine q_bipush C (n := 7) (v := 7) (by decide) (by decide +kernel) ?_
  refine q_icmp_lt C (off := 8) 53 hm (by decide +kernel) (by decide) (fun _ hm => ?_) (fun _ hm => ?_)
  · refine q_iconst C (n := 0) (v := 0) (by decide) (by decide +kernel) ?_
    refine q_loc [1, 2, 3, 0] rfl ?_
    exact v_X7_readSum_54 C Rm K hk6 _ _ _ _ _ _ hm
  · refine q_iload C (i := 4) 0 rfl (by decide +kernel) ?_
    refine q_goto C (off := 4) 54 (by decide +kernel) (by decide) ?_
    refine q_loc [1, 2, 3, 0] rfl ?_
    exact v_X7_readSum_54 C Rm K hk6 _ _ _ _ _ _ hm
def m_X7_readSum_6  : Nat → q_H → Nat → Int32 → Int32 → Int32 → Option q_H
  | 0, _, _, _, _, _ => none
  | n + 1, h, x0, x1, x2, x3 =>
    if (60 : Int32) < x3 then
      some h
    else
      (q_ca 7 h x0 (m_X7_readValue h x0)).bind fun (r1, h2) =>
      if r1 = 0 then
        some h2
      else
        if x2 = 0 then
          m_X7_readSum_29 (m_X7_readSum_6 n) h2 x0 x1 x3
        else
          (q_ca 7 h2 x0 (m_X7_write h2 x0 x2 ((0 : Int32)))).bind fun h5 =>
          m_X7_readSum_29 (m_X7_readSum_6 n) h5 x0 x1 x3
set_option maxRecDepth 20000 in
set_option maxHeartbeats 1000000 in
theorem v_X7_readSum_6 {Γ : q_G} {sz : Nat} {h' : q_H} (C : q_C Γ cX7_readSum RX7) (Rm : q_Rm Γ 5 2 43 0 0)  (K : q_K Γ cX7_readSum .return_ sz h' 0 0 [])  : ∀ (n : Nat) (h : q_H) (x0 : Nat) (x1 : Int32) (x2 : Int32) (x3 : Int32), m_X7_readSum_6 n h x0 x1 x2 x3 = some h' → q_V Γ sz 0 0 h [(0, .ref x0), (1, .int x1), (2, .int x2), (3, .int x3)] [] 6 := by
  intro n
  induction n with
  | zero => intro h x0 x1 x2 x3 hm; cases hm
  | succ n ih =>
    intro h x0 x1 x2 x3 hm
    unfold m_X7_readSum_6 at hm
    refine q_iload_n C (k4 := 3) 3 rfl (by decide +kernel) ?_
    refine q_bipush C (n := 60) (v := 60) (by decide) (by decide +kernel) ?_
    refine q_icmp_gt C (off := 82) 91 hm (by decide +kernel) (by decide) (fun _ hm => ?_) (fun _ hm => ?_)
    · exact q_rvS hm K (by decide +kernel)
    · refine q_aload_n C (k4 := 0) 0 rfl (by decide +kernel) ?_
      refine q_viS C Rm (As := []) (rest := []) Y_X7_readValue Yv_X7_readValue ml_X7_82 (by decide) (by decide) hm (fun r1 h2 e9 => c_X7_readValue _ _ _ _ _ _ _ e9) rfl rfl (Nat.le_of_ble_eq_true rfl) (by decide +kernel) (fun r1 h2 hm z3 => ?_)
      refine q_if_eq C (off := 75) 91 hm (by decide +kernel) (by decide) (fun _ hm => ?_) (fun _ hm => ?_)
      · exact q_rvS hm K (by decide +kernel)
      · refine q_iload_n C (k4 := 2) 2 rfl (by decide +kernel) ?_
        refine q_if_eq C (off := 9) 29 hm (by decide +kernel) (by decide) (fun _ hm => ?_) (fun _ hm => ?_)
        · refine q_loc [0, 1, 3] rfl ?_
          exact v_X7_readSum_29 C Rm K ih _ _ _ _ hm
        · refine q_aload_n C (k4 := 0) 0 rfl (by decide +kernel) ?_
          refine q_iload_n C (k4 := 2) 2 rfl (by decide +kernel) ?_
          refine q_iconst C (n := 0) (v := 0) (by decide) (by decide +kernel) ?_
          refine q_vvS C Rm (As := [.int x2, .int ((0 : Int32))]) (rest := []) Y_X7_write Yv_X7_write ml_X7_85 (by decide) (by decide) hm (fun h5 e9 => c_X7_write _ _ _ _ _ _ _ _ _ e9) rfl rfl (Nat.le_of_ble_eq_true rfl) (by decide +kernel) (fun h5 hm => ?_)
          refine q_loc [0, 1, 3] rfl ?_
          exact v_X7_readSum_29 C Rm K ih _ _ _ _ hm
def m_X7_readSum (h : q_H) (a0 : Nat) : Option q_H :=
  m_X7_readSum_6 q_fu h a0 ((0 : Int32)) ((0 : Int32)) ((0 : Int32))
set_option maxRecDepth 20000 in
set_option maxHeartbeats 1000000 in
theorem c_X7_readSum (l : Launch) (base : Nat) (D : va_G) (tc : Nat → ClassId) (sz : Nat) (h : q_H) (a0 : Nat) {h' : q_H} (hm : m_X7_readSum h a0 = some h') : q_M l yX7_readSum cX7_readSum 5 none 2 43 0 0 base D tc [.ref a0] sz h none sz h' := by
  refine q_startv (by decide) (Nat.le_of_ble_eq_true rfl) (fun Γ B K => ?_)
  obtain ⟨C, Rm, -⟩ := B
  have C : q_C Γ cX7_readSum RX7 := C
  show q_V Γ sz 0 0 h [(0, .ref a0)] [] 0
  unfold m_X7_readSum at hm
  refine q_iconst C (n := 0) (v := 0) (by decide) (by decide +kernel) ?_
  refine q_istore_n C Rm.1 (k4 := 1) (i := 1) rfl (lv' := [(1, .int ((0 : Int32))), (0, .ref a0)]) rfl (by decide) (by decide +kernel) ?_
  refine q_iconst C (n := 0) (v := 0) (by decide) (by decide +kernel) ?_
  refine q_istore_n C Rm.1 (k4 := 2) (i := 2) rfl (lv' := [(2, .int ((0 : Int32))), (1, .int ((0 : Int32))), (0, .ref a0)]) rfl (by decide) (by decide +kernel) ?_
  refine q_iconst C (n := 0) (v := 0) (by decide) (by decide +kernel) ?_
  refine q_istore_n C Rm.1 (k4 := 3) (i := 3) rfl (lv' := [(3, .int ((0 : Int32))), (2, .int ((0 : Int32))), (1, .int ((0 : Int32))), (0, .ref a0)]) rfl (by decide) (by decide +kernel) ?_
  refine q_loc [3, 2, 1, 0] rfl ?_
  exact v_X7_readSum_6 C Rm K _ _ _ _ _ _ hm
def m_X7_hold (h : q_H) (a0 : Nat) (a1 : Int32) : Option q_H :=
  (q_gi h a0 7 6).bind fun v1 =>
  (q_gn h a0 7 5).bind fun v2 =>
  (q_ln h v2).bind fun v3 =>
  if v3 ≤ v1 then
    some h
  else
    (q_gn h a0 7 5).bind fun v4 =>
    (q_gi h a0 7 6).bind fun v5 =>
    (q_si h v4 1 v5 a1).bind fun h6 =>
    (q_gi h6 a0 7 6).bind fun v7 =>
    (q_pf h6 a0 7 6 (.int ((v7 + (1 : Int32))))).bind fun h8 =>
    some h8
set_option maxRecDepth 20000 in
set_option maxHeartbeats 1000000 in
theorem c_X7_hold (l : Launch) (base : Nat) (D : va_G) (tc : Nat → ClassId) (sz : Nat) (h : q_H) (a0 : Nat) (a1 : Int32) {h' : q_H} (hm : m_X7_hold h a0 a1 = some h') : q_M l yX7_hold cX7_hold 2 none 0 0 0 0 base D tc [.ref a0, .int a1] sz h none sz h' := by
  refine q_startv (by decide) (Nat.le_of_ble_eq_true rfl) (fun Γ B K => ?_)
  obtain ⟨C, Rm, -⟩ := B
  have C : q_C Γ cX7_hold RX7 := C
  show q_V Γ sz 0 0 h [(0, .ref a0), (1, .int a1)] [] 0
  unfold m_X7_hold at hm
  refine q_aload_n C (k4 := 0) 0 rfl (by decide +kernel) ?_
  refine q_geti C fl_7_99 hm (by decide +kernel) (fun v1 hm => ?_)
  refine q_aload_n C (k4 := 0) 0 rfl (by decide +kernel) ?_
  refine q_getn C fl_7_24 hm (by decide +kernel) (fun v2 hm => ?_)
  refine q_len C hm (by decide +kernel) (fun v3 hm => ?_)
  refine q_icmp_ge C (off := 23) 32 hm (by decide +kernel) (by decide) (fun _ hm => ?_) (fun _ hm => ?_)
  · exact q_rvS hm K (by decide +kernel)
  · refine q_aload_n C (k4 := 0) 0 rfl (by decide +kernel) ?_
    refine q_getn C fl_7_24 hm (by decide +kernel) (fun v4 hm => ?_)
    refine q_aload_n C (k4 := 0) 0 rfl (by decide +kernel) ?_
    refine q_geti C fl_7_99 hm (by decide +kernel) (fun v5 hm => ?_)
    refine q_iload_n C (k4 := 1) 1 rfl (by decide +kernel) ?_
    refine q_iw C hm (by decide +kernel) (fun h6 hm => ?_)
    refine q_aload_n C (k4 := 0) 0 rfl (by decide +kernel) ?_
    refine q_dup C rfl (by decide +kernel) ?_
    refine q_geti C fl_7_99 hm (by decide +kernel) (fun v7 hm => ?_)
    refine q_iconst C (n := 1) (v := 1) (by decide) (by decide +kernel) ?_
    refine q_iadd C (by decide +kernel) ?_
    refine q_putf C fl_7_99 hm rfl rfl (by decide +kernel) (fun h8 hm => ?_)
    exact q_rvS hm K (by decide +kernel)
def m_X7_openAll_42 (k2 : q_H → Nat → Int32 → Option q_H) (h : q_H) (x0 : Nat) (x1 : Int32) (s0 : Int32) : Option q_H :=
  if s0 = 0 then
    some h
  else
    (q_gi h x0 7 7).bind fun v5 =>
    if v5 < (10 : Int32) then
      (q_gi h x0 7 7).bind fun v6 =>
      (q_pf h x0 7 7 (.int ((v6 + (1 : Int32))))).bind fun h7 =>
      (q_ca 7 h7 x0 (m_X7_hold h7 x0 s0)).bind fun h9 =>
      (q_gn h9 x0 7 0).bind fun v10 =>
      (q_ca 3 h9 v10 (m_X3_next h9 v10)).bind fun h12 =>
      k2 h12 x0 ((x1 + (1 : Int32)))
    else
      (q_gn h x0 7 0).bind fun v13 =>
      (q_ca 3 h v13 (m_X3_refuse h v13 ((2 : Int32)))).bind fun (r14, h15) =>
      some h15
set_option maxRecDepth 20000 in
set_option maxHeartbeats 1000000 in
theorem v_X7_openAll_42 {Γ : q_G} {sz : Nat} {h' : q_H} (C : q_C Γ cX7_openAll RX7) (Rm : q_Rm Γ 3 1 21 0 0) {k2 : q_H → Nat → Int32 → Option q_H} (K : q_K Γ cX7_openAll .return_ sz h' 0 0 []) (hk2 : ∀ (h : q_H) (x0 : Nat) (x1 : Int32), k2 h x0 x1 = some h' → q_V Γ sz 0 0 h [(0, .ref x0), (1, .int x1)] [] 2) : ∀ (h : q_H) (x0 : Nat) (x1 : Int32) (s0 : Int32), m_X7_openAll_42 k2 h x0 x1 s0 = some h' → q_V Γ sz 0 0 h [(0, .ref x0), (1, .int x1)] [.int s0] 42 := by
  intro h x0 x1 s0 hm
  unfold m_X7_openAll_42 at hm
  refine q_istore_n C Rm.1 (k4 := 2) (i := 2) rfl (lv' := [(2, .int s0), (0, .ref x0), (1, .int x1)]) rfl (by decide) (by decide +kernel) ?_
  refine q_iload_n C (k4 := 2) 0 rfl (by decide +kernel) ?_
  refine q_if_ne C (off := 4) 48 hm (by decide +kernel) (by decide) (fun _ hm => ?_) (fun _ hm => ?_)
  · refine q_aload_n C (k4 := 0) 1 rfl (by decide +kernel) ?_
    refine q_geti C fl_7_102 hm (by decide +kernel) (fun v5 hm => ?_)
    refine q_bipush C (n := 10) (v := 10) (by decide) (by decide +kernel) ?_
    refine q_icmp_lt C (off := 13) 67 hm (by decide +kernel) (by decide) (fun _ hm => ?_) (fun _ hm => ?_)
    · refine q_aload_n C (k4 := 0) 1 rfl (by decide +kernel) ?_
      refine q_dup C rfl (by decide +kernel) ?_
      refine q_geti C fl_7_102 hm (by decide +kernel) (fun v6 hm => ?_)
      refine q_iconst C (n := 1) (v := 1) (by decide) (by decide +kernel) ?_
      refine q_iadd C (by decide +kernel) ?_
      refine q_putf C fl_7_102 hm rfl rfl (by decide +kernel) (fun h7 hm => ?_)
      refine q_aload_n C (k4 := 0) 1 rfl (by decide +kernel) ?_
      refine q_iload_n C (k4 := 2) 0 rfl (by decide +kernel) ?_
      refine q_vvS C Rm (As := [.int s0]) (rest := []) Y_X7_hold Yv_X7_hold ml_X7_118 (by decide) (by decide) hm (fun h9 e9 => c_X7_hold _ _ _ _ _ _ _ _ e9) rfl rfl (Nat.le_of_ble_eq_true rfl) (by decide +kernel) (fun h9 hm => ?_)
      refine q_aload_n C (k4 := 0) 1 rfl (by decide +kernel) ?_
      refine q_getn C fl_7_9 hm (by decide +kernel) (fun v10 hm => ?_)
      refine q_vvS C Rm (As := []) (rest := []) Y_X3_next Yv_X3_next ml_X7_73 (by decide) (by decide) hm (fun h12 e9 => c_X3_next _ _ _ _ _ _ _ e9) rfl rfl (Nat.le_of_ble_eq_true rfl) (by decide +kernel) (fun h12 hm => ?_)
      refine q_iinc C Rm.1 (i := 1) (n := 1) (v := (x1 + (1 : Int32))) 2 rfl (q_inc _ (by decide)) (lv' := [(1, .int ((x1 + (1 : Int32)))), (2, .int s0), (0, .ref x0)]) rfl (by decide) (by decide +kernel) ?_
      refine q_goto C (off := -90) 2 (by decide +kernel) (by decide) ?_
      refine q_loc [2, 0] rfl ?_
      exact hk2 _ _ _ hm
    · refine q_aload_n C (k4 := 0) 1 rfl (by decide +kernel) ?_
      refine q_getn C fl_7_9 hm (by decide +kernel) (fun v13 hm => ?_)
      refine q_iconst C (n := 2) (v := 2) (by decide) (by decide +kernel) ?_
      refine q_viS C Rm (As := [.int ((2 : Int32))]) (rest := []) Y_X3_refuse Yv_X3_refuse ml_X7_70 (by decide) (by decide) hm (fun r14 h15 e9 => c_X3_refuse _ _ _ _ _ _ _ _ e9) rfl rfl (Nat.le_of_ble_eq_true rfl) (by decide +kernel) (fun r14 h15 hm z16 => ?_)
      refine q_pop C rfl (by decide +kernel) ?_
      exact q_rvS hm K (by decide +kernel)
  · exact q_rvS hm K (by decide +kernel)
def m_X7_openAll_2  : Nat → q_H → Nat → Int32 → Option q_H
  | 0, _, _, _ => none
  | n + 1, h, x0, x1 =>
    if (10 : Int32) < x1 then
      some h
    else
      (q_gn h x0 7 0).bind fun v1 =>
      (q_gi h v1 3 6).bind fun v2 =>
      if v2 = (91 : Int32) then
        m_X7_openAll_42 (m_X7_openAll_2 n) h x0 x1 ((1 : Int32))
      else
        (q_gn h x0 7 0).bind fun v3 =>
        (q_gi h v3 3 6).bind fun v4 =>
        if v4 = (716 : Int32) then
          m_X7_openAll_42 (m_X7_openAll_2 n) h x0 x1 ((4 : Int32))
        else
          m_X7_openAll_42 (m_X7_openAll_2 n) h x0 x1 ((0 : Int32))
set_option maxRecDepth 20000 in
set_option maxHeartbeats 1000000 in
theorem v_X7_openAll_2 {Γ : q_G} {sz : Nat} {h' : q_H} (C : q_C Γ cX7_openAll RX7) (Rm : q_Rm Γ 3 1 21 0 0)  (K : q_K Γ cX7_openAll .return_ sz h' 0 0 [])  : ∀ (n : Nat) (h : q_H) (x0 : Nat) (x1 : Int32), m_X7_openAll_2 n h x0 x1 = some h' → q_V Γ sz 0 0 h [(0, .ref x0), (1, .int x1)] [] 2 := by
  intro n
  induction n with
  | zero => intro h x0 x1 hm; cases hm
  | succ n ih =>
    intro h x0 x1 hm
    unfold m_X7_openAll_2 at hm
    refine q_iload_n C (k4 := 1) 1 rfl (by decide +kernel) ?_
    refine q_bipush C (n := 10) (v := 10) (by decide) (by decide +kernel) ?_
    refine q_icmp_gt C (off := 90) 95 hm (by decide +kernel) (by decide) (fun _ hm => ?_) (fun _ hm => ?_)
    · exact q_rvS hm K (by decide +kernel)
    · refine q_aload_n C (k4 := 0) 0 rfl (by decide +kernel) ?_
      refine q_getn C fl_7_9 hm (by decide +kernel) (fun v1 hm => ?_)
      refine q_geti C fl_7_67 hm (by decide +kernel) (fun v2 hm => ?_)
      refine q_bipush C (n := 91) (v := 91) (by decide) (by decide +kernel) ?_
      refine q_icmp_ne C (off := 7) 24 hm (by decide +kernel) (by decide) (fun _ hm => ?_) (fun _ hm => ?_)
      · refine q_aload_n C (k4 := 0) 0 rfl (by decide +kernel) ?_
        refine q_getn C fl_7_9 hm (by decide +kernel) (fun v3 hm => ?_)
        refine q_geti C fl_7_67 hm (by decide +kernel) (fun v4 hm => ?_)
        refine q_sipush C (n := 716) (v := 716) (by decide) (by decide +kernel) ?_
        refine q_icmp_ne C (off := 7) 41 hm (by decide +kernel) (by decide) (fun _ hm => ?_) (fun _ hm => ?_)
        · refine q_iconst C (n := 0) (v := 0) (by decide) (by decide +kernel) ?_
          exact v_X7_openAll_42 C Rm K ih _ _ _ _ hm
        · refine q_iconst C (n := 4) (v := 4) (by decide) (by decide +kernel) ?_
          refine q_goto C (off := 4) 42 (by decide +kernel) (by decide) ?_
          exact v_X7_openAll_42 C Rm K ih _ _ _ _ hm
      · refine q_iconst C (n := 1) (v := 1) (by decide) (by decide +kernel) ?_
        refine q_goto C (off := 21) 42 (by decide +kernel) (by decide) ?_
        exact v_X7_openAll_42 C Rm K ih _ _ _ _ hm
def m_X7_openAll (h : q_H) (a0 : Nat) : Option q_H :=
  m_X7_openAll_2 q_fu h a0 ((0 : Int32))
set_option maxRecDepth 20000 in
set_option maxHeartbeats 1000000 in
theorem c_X7_openAll (l : Launch) (base : Nat) (D : va_G) (tc : Nat → ClassId) (sz : Nat) (h : q_H) (a0 : Nat) {h' : q_H} (hm : m_X7_openAll h a0 = some h') : q_M l yX7_openAll cX7_openAll 3 none 1 21 0 0 base D tc [.ref a0] sz h none sz h' := by
  refine q_startv (by decide) (Nat.le_of_ble_eq_true rfl) (fun Γ B K => ?_)
  obtain ⟨C, Rm, -⟩ := B
  have C : q_C Γ cX7_openAll RX7 := C
  show q_V Γ sz 0 0 h [(0, .ref a0)] [] 0
  unfold m_X7_openAll at hm
  refine q_iconst C (n := 0) (v := 0) (by decide) (by decide +kernel) ?_
  refine q_istore_n C Rm.1 (k4 := 1) (i := 1) rfl (lv' := [(1, .int ((0 : Int32))), (0, .ref a0)]) rfl (by decide) (by decide +kernel) ?_
  refine q_loc [1, 0] rfl ?_
  exact v_X7_openAll_2 C Rm K _ _ _ _ hm
def m_X7_readComparison_60  (h : q_H) (x0 : Nat) (x1 : Int32) : Option q_H :=
  (q_gn h x0 7 0).bind fun v18 =>
  (q_gi h v18 3 8).bind fun v19 =>
  if v19 = 0 then
    (q_gi h x0 7 8).bind fun v20 =>
    (q_pf h x0 7 8 (.int ((v20 + (1 : Int32))))).bind fun h21 =>
    (q_gn h21 x0 7 0).bind fun v22 =>
    (q_ca 3 h21 v22 (m_X3_next h21 v22)).bind fun h24 =>
    (q_ca 7 h24 x0 (m_X7_readSum h24 x0)).bind fun h26 =>
    (q_ca 7 h26 x0 (m_X7_write h26 x0 x1 ((0 : Int32)))).bind fun h28 =>
    some h28
  else
    some h
set_option maxRecDepth 20000 in
set_option maxHeartbeats 1000000 in
theorem v_X7_readComparison_60 {Γ : q_G} {sz : Nat} {h' : q_H} (C : q_C Γ cX7_readComparison RX7) (Rm : q_Rm Γ 2 3 67 0 0)  (K : q_K Γ cX7_readComparison .return_ sz h' 0 0 [])  : ∀ (h : q_H) (x0 : Nat) (x1 : Int32), m_X7_readComparison_60 h x0 x1 = some h' → q_V Γ sz 0 0 h [(0, .ref x0), (1, .int x1)] [] 60 := by
  intro h x0 x1 hm
  unfold m_X7_readComparison_60 at hm
  refine q_aload_n C (k4 := 0) 0 rfl (by decide +kernel) ?_
  refine q_getn C fl_7_9 hm (by decide +kernel) (fun v18 hm => ?_)
  refine q_geti C fl_7_53 hm (by decide +kernel) (fun v19 hm => ?_)
  refine q_if_eq C (off := 4) 71 hm (by decide +kernel) (by decide) (fun _ hm => ?_) (fun _ hm => ?_)
  · refine q_aload_n C (k4 := 0) 0 rfl (by decide +kernel) ?_
    refine q_dup C rfl (by decide +kernel) ?_
    refine q_geti C fl_7_34 hm (by decide +kernel) (fun v20 hm => ?_)
    refine q_iconst C (n := 1) (v := 1) (by decide) (by decide +kernel) ?_
    refine q_iadd C (by decide +kernel) ?_
    refine q_putf C fl_7_34 hm rfl rfl (by decide +kernel) (fun h21 hm => ?_)
    refine q_aload_n C (k4 := 0) 0 rfl (by decide +kernel) ?_
    refine q_getn C fl_7_9 hm (by decide +kernel) (fun v22 hm => ?_)
    refine q_vvS C Rm (As := []) (rest := []) Y_X3_next Yv_X3_next ml_X7_73 (by decide) (by decide) hm (fun h24 e9 => c_X3_next _ _ _ _ _ _ _ e9) rfl rfl (Nat.le_of_ble_eq_true rfl) (by decide +kernel) (fun h24 hm => ?_)
    refine q_aload_n C (k4 := 0) 0 rfl (by decide +kernel) ?_
    refine q_vvS C Rm (As := []) (rest := []) Y_X7_readSum Yv_X7_readSum ml_X7_76 (by decide) (by decide) hm (fun h26 e9 => c_X7_readSum _ _ _ _ _ _ _ e9) rfl rfl (Nat.le_of_ble_eq_true rfl) (by decide +kernel) (fun h26 hm => ?_)
    refine q_aload_n C (k4 := 0) 0 rfl (by decide +kernel) ?_
    refine q_iload_n C (k4 := 1) 1 rfl (by decide +kernel) ?_
    refine q_iconst C (n := 0) (v := 0) (by decide) (by decide +kernel) ?_
    refine q_vvS C Rm (As := [.int x1, .int ((0 : Int32))]) (rest := []) Y_X7_write Yv_X7_write ml_X7_85 (by decide) (by decide) hm (fun h28 e9 => c_X7_write _ _ _ _ _ _ _ _ _ e9) rfl rfl (Nat.le_of_ble_eq_true rfl) (by decide +kernel) (fun h28 hm => ?_)
    exact q_rvS hm K (by decide +kernel)
  · exact q_rvS hm K (by decide +kernel)
def m_X7_readComparison (h : q_H) (a0 : Nat) : Option q_H :=
  (q_gn h a0 7 0).bind fun v1 =>
  (q_gi h v1 3 8).bind fun v2 =>
  if v2 = 0 then
    (q_ca 7 h a0 (m_X7_readSum h a0)).bind fun h4 =>
    (q_gn h4 a0 7 0).bind fun v5 =>
    (q_gi h4 v5 3 6).bind fun v6 =>
    (m_X6_comparison v6).bind fun r7 =>
    if r7 = 0 then
      (q_gn h4 a0 7 0).bind fun v14 =>
      (q_ca 3 h4 v14 (m_X3_refuse h4 v14 ((0 : Int32)))).bind fun (r15, h16) =>
      m_X7_readComparison_60 h16 a0 r7
    else
      (q_gi h4 a0 7 8).bind fun v9 =>
      if v9 < (60 : Int32) then
        m_X7_readComparison_60 h4 a0 r7
      else
        (q_gn h4 a0 7 0).bind fun v10 =>
        (q_ca 3 h4 v10 (m_X3_refuse h4 v10 ((3 : Int32)))).bind fun (r11, h12) =>
        m_X7_readComparison_60 h12 a0 r7
  else
    some h
set_option maxRecDepth 20000 in
set_option maxHeartbeats 1000000 in
theorem c_X7_readComparison (l : Launch) (base : Nat) (D : va_G) (tc : Nat → ClassId) (sz : Nat) (h : q_H) (a0 : Nat) {h' : q_H} (hm : m_X7_readComparison h a0 = some h') : q_M l yX7_readComparison cX7_readComparison 2 none 3 67 0 0 base D tc [.ref a0] sz h none sz h' := by
  refine q_startv (by decide) (Nat.le_of_ble_eq_true rfl) (fun Γ B K => ?_)
  obtain ⟨C, Rm, -⟩ := B
  have C : q_C Γ cX7_readComparison RX7 := C
  show q_V Γ sz 0 0 h [(0, .ref a0)] [] 0
  unfold m_X7_readComparison at hm
  refine q_aload_n C (k4 := 0) 0 rfl (by decide +kernel) ?_
  refine q_getn C fl_7_9 hm (by decide +kernel) (fun v1 hm => ?_)
  refine q_geti C fl_7_53 hm (by decide +kernel) (fun v2 hm => ?_)
  refine q_if_eq C (off := 4) 11 hm (by decide +kernel) (by decide) (fun _ hm => ?_) (fun _ hm => ?_)
  · refine q_aload_n C (k4 := 0) 0 rfl (by decide +kernel) ?_
    refine q_vvS C Rm (As := []) (rest := []) Y_X7_readSum Yv_X7_readSum ml_X7_76 (by decide) (by decide) hm (fun h4 e9 => c_X7_readSum _ _ _ _ _ _ _ e9) rfl rfl (Nat.le_of_ble_eq_true rfl) (by decide +kernel) (fun h4 hm => ?_)
    refine q_aload_n C (k4 := 0) 0 rfl (by decide +kernel) ?_
    refine q_getn C fl_7_9 hm (by decide +kernel) (fun v5 hm => ?_)
    refine q_geti C fl_7_67 hm (by decide +kernel) (fun v6 hm => ?_)
    refine q_siP C Rm (As := [.int v6]) (rest := []) Y_X6_comparison Ys_X6_comparison ml_X7_121 (by decide) (by decide) hm (fun r9 e9 => c_X6_comparison _ _ _ _ _ _ _ e9) rfl rfl (Nat.le_of_ble_eq_true rfl) (by decide +kernel) (fun r7 hm z8 => ?_)
    refine q_istore_n C Rm.1 (k4 := 1) (i := 1) rfl (lv' := [(1, .int r7), (0, .ref a0)]) rfl (by decide) (by decide +kernel) ?_
    refine q_iload_n C (k4 := 1) 0 rfl (by decide +kernel) ?_
    refine q_if_ne C (off := 15) 42 hm (by decide +kernel) (by decide) (fun _ hm => ?_) (fun _ hm => ?_)
    · refine q_aload_n C (k4 := 0) 1 rfl (by decide +kernel) ?_
      refine q_geti C fl_7_34 hm (by decide +kernel) (fun v9 hm => ?_)
      refine q_bipush C (n := 60) (v := 60) (by decide) (by decide +kernel) ?_
      refine q_icmp_lt C (off := 12) 60 hm (by decide +kernel) (by decide) (fun _ hm => ?_) (fun _ hm => ?_)
      · refine q_loc [1, 0] rfl ?_
        exact v_X7_readComparison_60 C Rm K _ _ _ hm
      · refine q_aload_n C (k4 := 0) 1 rfl (by decide +kernel) ?_
        refine q_getn C fl_7_9 hm (by decide +kernel) (fun v10 hm => ?_)
        refine q_iconst C (n := 3) (v := 3) (by decide) (by decide +kernel) ?_
        refine q_viS C Rm (As := [.int ((3 : Int32))]) (rest := []) Y_X3_refuse Yv_X3_refuse ml_X7_70 (by decide) (by decide) hm (fun r11 h12 e9 => c_X3_refuse _ _ _ _ _ _ _ _ e9) rfl rfl (Nat.le_of_ble_eq_true rfl) (by decide +kernel) (fun r11 h12 hm z13 => ?_)
        refine q_pop C rfl (by decide +kernel) ?_
        refine q_loc [1, 0] rfl ?_
        exact v_X7_readComparison_60 C Rm K _ _ _ hm
    · refine q_aload_n C (k4 := 0) 1 rfl (by decide +kernel) ?_
      refine q_getn C fl_7_9 hm (by decide +kernel) (fun v14 hm => ?_)
      refine q_iconst C (n := 0) (v := 0) (by decide) (by decide +kernel) ?_
      refine q_viS C Rm (As := [.int ((0 : Int32))]) (rest := []) Y_X3_refuse Yv_X3_refuse ml_X7_70 (by decide) (by decide) hm (fun r15 h16 e9 => c_X3_refuse _ _ _ _ _ _ _ _ e9) rfl rfl (Nat.le_of_ble_eq_true rfl) (by decide +kernel) (fun r15 h16 hm z17 => ?_)
      refine q_pop C rfl (by decide +kernel) ?_
      refine q_goto C (off := 21) 60 (by decide +kernel) (by decide) ?_
      refine q_loc [1, 0] rfl ?_
      exact v_X7_readComparison_60 C Rm K _ _ _ hm
  · exact q_rvS hm K (by decide +kernel)
def m_X7_settle_49 (k0 : q_H → Nat → Int32 → Option q_H) (h : q_H) (x0 : Nat) (x1 : Int32) (x2 : Int32) : Option q_H :=
  (q_ca 7 h x0 (m_X7_write h x0 x2 ((0 : Int32)))).bind fun h11 =>
  (q_gi h11 x0 7 6).bind fun v12 =>
  (q_pf h11 x0 7 6 (.int ((v12 - (1 : Int32))))).bind fun h13 =>
  k0 h13 x0 x1
set_option maxRecDepth 20000 in
set_option maxHeartbeats 1000000 in
theorem v_X7_settle_49 {Γ : q_G} {sz : Nat} {h' : q_H} (C : q_C Γ cX7_settle RX7) (Rm : q_Rm Γ 3 1 22 0 0) {k0 : q_H → Nat → Int32 → Option q_H} (K : q_K Γ cX7_settle .return_ sz h' 0 0 []) (hk0 : ∀ (h : q_H) (x0 : Nat) (x1 : Int32), k0 h x0 x1 = some h' → q_V Γ sz 0 0 h [(0, .ref x0), (1, .int x1)] [] 0) : ∀ (h : q_H) (x0 : Nat) (x1 : Int32) (x2 : Int32), m_X7_settle_49 k0 h x0 x1 x2 = some h' → q_V Γ sz 0 0 h [(0, .ref x0), (1, .int x1), (2, .int x2)] [] 49 := by
  intro h x0 x1 x2 hm
  unfold m_X7_settle_49 at hm
  refine q_aload_n C (k4 := 0) 0 rfl (by decide +kernel) ?_
  refine q_iload_n C (k4 := 2) 2 rfl (by decide +kernel) ?_
  refine q_iconst C (n := 0) (v := 0) (by decide) (by decide +kernel) ?_
  refine q_vvS C Rm (As := [.int x2, .int ((0 : Int32))]) (rest := []) Y_X7_write Yv_X7_write ml_X7_85 (by decide) (by decide) hm (fun h11 e9 => c_X7_write _ _ _ _ _ _ _ _ _ e9) rfl rfl (Nat.le_of_ble_eq_true rfl) (by decide +kernel) (fun h11 hm => ?_)
  refine q_aload_n C (k4 := 0) 0 rfl (by decide +kernel) ?_
  refine q_dup C rfl (by decide +kernel) ?_
  refine q_geti C fl_7_99 hm (by decide +kernel) (fun v12 hm => ?_)
  refine q_iconst C (n := 1) (v := 1) (by decide) (by decide +kernel) ?_
  refine q_isub C (by decide +kernel) ?_
  refine q_putf C fl_7_99 hm rfl rfl (by decide +kernel) (fun h13 hm => ?_)
  refine q_goto C (off := -65) 0 (by decide +kernel) (by decide) ?_
  refine q_loc [0, 1] rfl ?_
  exact hk0 _ _ _ hm
def m_X7_settle_0  : Nat → q_H → Nat → Int32 → Option q_H
  | 0, _, _, _ => none
  | n + 1, h, x0, x1 =>
    (q_gi h x0 7 6).bind fun v1 =>
    if v1 ≤ 0 then
      some h
    else
      (q_gn h x0 7 5).bind fun v2 =>
      (q_gi h x0 7 6).bind fun v3 =>
      (q_ai h v2 1 ((v3 - (1 : Int32)))).bind fun v4 =>
      if v4 < x1 then
        some h
      else
        (q_gn h x0 7 5).bind fun v5 =>
        (q_gi h x0 7 6).bind fun v6 =>
        (q_ai h v5 1 ((v6 - (1 : Int32)))).bind fun v7 =>
        if v7 = (4 : Int32) then
          (q_gi h x0 7 7).bind fun v8 =>
          (q_pf h x0 7 7 (.int ((v8 - (1 : Int32))))).bind fun h9 =>
          m_X7_settle_49 (m_X7_settle_0 n) h9 x0 x1 v7
        else
          m_X7_settle_49 (m_X7_settle_0 n) h x0 x1 v7
set_option maxRecDepth 20000 in
set_option maxHeartbeats 1000000 in
theorem v_X7_settle_0 {Γ : q_G} {sz : Nat} {h' : q_H} (C : q_C Γ cX7_settle RX7) (Rm : q_Rm Γ 3 1 22 0 0)  (K : q_K Γ cX7_settle .return_ sz h' 0 0 [])  : ∀ (n : Nat) (h : q_H) (x0 : Nat) (x1 : Int32), m_X7_settle_0 n h x0 x1 = some h' → q_V Γ sz 0 0 h [(0, .ref x0), (1, .int x1)] [] 0 := by
  intro n
  induction n with
  | zero => intro h x0 x1 hm; cases hm
  | succ n ih =>
    intro h x0 x1 hm
    unfold m_X7_settle_0 at hm
    refine q_aload_n C (k4 := 0) 0 rfl (by decide +kernel) ?_
    refine q_geti C fl_7_99 hm (by decide +kernel) (fun v1 hm => ?_)
    refine q_if_le C (off := 64) 68 hm (by decide +kernel) (by decide) (fun _ hm => ?_) (fun _ hm => ?_)
    · exact q_rvS hm K (by decide +kernel)
    · refine q_aload_n C (k4 := 0) 0 rfl (by decide +kernel) ?_
      refine q_getn C fl_7_24 hm (by decide +kernel) (fun v2 hm => ?_)
      refine q_aload_n C (k4 := 0) 0 rfl (by decide +kernel) ?_
      refine q_geti C fl_7_99 hm (by decide +kernel) (fun v3 hm => ?_)
      refine q_iconst C (n := 1) (v := 1) (by decide) (by decide +kernel) ?_
      refine q_isub C (by decide +kernel) ?_
      refine q_ir C hm (by decide +kernel) (fun v4 hm => ?_)
      refine q_iload_n C (k4 := 1) 1 rfl (by decide +kernel) ?_
      refine q_icmp_lt C (off := 49) 68 hm (by decide +kernel) (by decide) (fun _ hm => ?_) (fun _ hm => ?_)
      · exact q_rvS hm K (by decide +kernel)
      · refine q_aload_n C (k4 := 0) 0 rfl (by decide +kernel) ?_
        refine q_getn C fl_7_24 hm (by decide +kernel) (fun v5 hm => ?_)
        refine q_aload_n C (k4 := 0) 0 rfl (by decide +kernel) ?_
        refine q_geti C fl_7_99 hm (by decide +kernel) (fun v6 hm => ?_)
        refine q_iconst C (n := 1) (v := 1) (by decide) (by decide +kernel) ?_
        refine q_isub C (by decide +kernel) ?_
        refine q_ir C hm (by decide +kernel) (fun v7 hm => ?_)
        refine q_istore_n C Rm.1 (k4 := 2) (i := 2) rfl (lv' := [(2, .int v7), (0, .ref x0), (1, .int x1)]) rfl (by decide) (by decide +kernel) ?_
        refine q_iload_n C (k4 := 2) 0 rfl (by decide +kernel) ?_
        refine q_iconst C (n := 4) (v := 4) (by decide) (by decide +kernel) ?_
        refine q_icmp_ne C (off := 13) 49 hm (by decide +kernel) (by decide) (fun _ hm => ?_) (fun _ hm => ?_)
        · refine q_loc [1, 2, 0] rfl ?_
          exact v_X7_settle_49 C Rm K ih _ _ _ _ hm
        · refine q_aload_n C (k4 := 0) 1 rfl (by decide +kernel) ?_
          refine q_dup C rfl (by decide +kernel) ?_
          refine q_geti C fl_7_102 hm (by decide +kernel) (fun v8 hm => ?_)
          refine q_iconst C (n := 1) (v := 1) (by decide) (by decide +kernel) ?_
          refine q_isub C (by decide +kernel) ?_
          refine q_putf C fl_7_102 hm rfl rfl (by decide +kernel) (fun h9 hm => ?_)
          refine q_loc [1, 2, 0] rfl ?_
          exact v_X7_settle_49 C Rm K ih _ _ _ _ hm
def m_X7_settle (h : q_H) (a0 : Nat) (a1 : Int32) : Option q_H :=
  m_X7_settle_0 q_fu h a0 a1
set_option maxRecDepth 20000 in
set_option maxHeartbeats 1000000 in
theorem c_X7_settle (l : Launch) (base : Nat) (D : va_G) (tc : Nat → ClassId) (sz : Nat) (h : q_H) (a0 : Nat) (a1 : Int32) {h' : q_H} (hm : m_X7_settle h a0 a1 = some h') : q_M l yX7_settle cX7_settle 3 none 1 22 0 0 base D tc [.ref a0, .int a1] sz h none sz h' := by
  refine q_startv (by decide) (Nat.le_of_ble_eq_true rfl) (fun Γ B K => ?_)
  obtain ⟨C, Rm, -⟩ := B
  have C : q_C Γ cX7_settle RX7 := C
  show q_V Γ sz 0 0 h [(0, .ref a0), (1, .int a1)] [] 0
  unfold m_X7_settle at hm
  exact v_X7_settle_0 C Rm K _ _ _ _ hm
