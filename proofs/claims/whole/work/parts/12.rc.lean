def m_X12_windOf (h0 : q_H) (a0 : Nat) (a1 : Int32) : Option Int32 :=
  (q_gn h0 a0 12 20).bind fun v1 =>
  (q_ai h0 v1 1 ((((12 : Int32) + ((5 : Int32) * a1)) + (2 : Int32)))).bind fun v2 =>
  some v2
set_option maxRecDepth 20000 in
set_option maxHeartbeats 1000000 in
theorem c_X12_windOf (l : Launch) (base : Nat) (D : va_G) (tc : Nat → ClassId) (sz : Nat) (h0 : q_H) (a0 : Nat) (a1 : Int32) {r : Int32} (hm : m_X12_windOf h0 a0 a1 = some r) : q_M l yX12_windOf cX12_windOf 2 (some .int) 0 0 0 0 base D tc [.ref a0, .int a1] sz h0 (some (.int r)) sz h0 := by
  refine q_starti (by decide) (Nat.le_of_ble_eq_true rfl) (fun Γ B K => ?_)
  obtain ⟨C, Rm, -⟩ := B
  have C : q_C Γ cX12_windOf RX12 := C
  show q_V Γ sz 0 0 h0 [(0, .ref a0), (1, .int a1)] [] 0
  unfold m_X12_windOf at hm
  refine q_aload_n C (k4 := 0) 0 rfl (by decide +kernel) ?_
  refine q_getn C fl_12_39 hm (by decide +kernel) (fun v1 hm => ?_)
  refine q_bipush C (n := 12) (v := 12) (by decide) (by decide +kernel) ?_
  refine q_iconst C (n := 5) (v := 5) (by decide) (by decide +kernel) ?_
  refine q_iload_n C (k4 := 1) 1 rfl (by decide +kernel) ?_
  refine q_imul C (by decide +kernel) ?_
  refine q_iadd C (by decide +kernel) ?_
  refine q_iconst C (n := 2) (v := 2) (by decide) (by decide +kernel) ?_
  refine q_iadd C (by decide +kernel) ?_
  refine q_ir C hm (by decide +kernel) (fun v2 hm => ?_)
  exact q_riP hm K rfl (by decide +kernel)
def m_X12_isUp (h0 : q_H) (a0 : Nat) (a1 : Int32) : Option Int32 :=
  (q_ca 12 h0 a0 (m_X12_isPuller h0 a0 a1)).bind fun r1 =>
  if r1 = 0 then
    some ((0 : Int32))
  else
    (q_gn h0 a0 12 20).bind fun v3 =>
    (q_ai h0 v3 1 ((((12 : Int32) + ((5 : Int32) * a1)) + (3 : Int32)))).bind fun v4 =>
    if v4 = (1 : Int32) then
      some ((1 : Int32))
    else
      some ((0 : Int32))
set_option maxRecDepth 20000 in
set_option maxHeartbeats 1000000 in
theorem c_X12_isUp (l : Launch) (base : Nat) (D : va_G) (tc : Nat → ClassId) (sz : Nat) (h0 : q_H) (a0 : Nat) (a1 : Int32) {r : Int32} (hm : m_X12_isUp h0 a0 a1 = some r) : q_M l yX12_isUp cX12_isUp 2 (some .boolean) 1 21 0 0 base D tc [.ref a0, .int a1] sz h0 (some (.int r)) sz h0 := by
  refine q_starti (by decide) (Nat.le_of_ble_eq_true rfl) (fun Γ B K => ?_)
  obtain ⟨C, Rm, -⟩ := B
  have C : q_C Γ cX12_isUp RX12 := C
  show q_V Γ sz 0 0 h0 [(0, .ref a0), (1, .int a1)] [] 0
  unfold m_X12_isUp at hm
  refine q_aload_n C (k4 := 0) 0 rfl (by decide +kernel) ?_
  refine q_iload_n C (k4 := 1) 1 rfl (by decide +kernel) ?_
  refine q_viP C Rm (As := [.int a1]) (rest := []) Y_X12_isPuller Yv_X12_isPuller ml_X12_278 (by decide) (by decide) hm (fun r9 e9 => c_X12_isPuller _ _ _ _ _ _ _ _ e9) rfl rfl (Nat.le_of_ble_eq_true rfl) (by decide +kernel) (fun r1 hm z2 => ?_)
  refine q_if_eq C (off := 24) 29 hm (by decide +kernel) (by decide) (fun _ hm => ?_) (fun _ hm => ?_)
  · refine q_iconst C (n := 0) (v := 0) (by decide) (by decide +kernel) ?_
    exact q_riP hm K q_z0 (by decide +kernel)
  · refine q_aload_n C (k4 := 0) 0 rfl (by decide +kernel) ?_
    refine q_getn C fl_12_39 hm (by decide +kernel) (fun v3 hm => ?_)
    refine q_bipush C (n := 12) (v := 12) (by decide) (by decide +kernel) ?_
    refine q_iconst C (n := 5) (v := 5) (by decide) (by decide +kernel) ?_
    refine q_iload_n C (k4 := 1) 1 rfl (by decide +kernel) ?_
    refine q_imul C (by decide +kernel) ?_
    refine q_iadd C (by decide +kernel) ?_
    refine q_iconst C (n := 3) (v := 3) (by decide) (by decide +kernel) ?_
    refine q_iadd C (by decide +kernel) ?_
    refine q_ir C hm (by decide +kernel) (fun v4 hm => ?_)
    refine q_iconst C (n := 1) (v := 1) (by decide) (by decide +kernel) ?_
    refine q_icmp_ne C (off := 7) 29 hm (by decide +kernel) (by decide) (fun _ hm => ?_) (fun _ hm => ?_)
    · refine q_iconst C (n := 0) (v := 0) (by decide) (by decide +kernel) ?_
      exact q_riP hm K q_z0 (by decide +kernel)
    · refine q_iconst C (n := 1) (v := 1) (by decide) (by decide +kernel) ?_
      refine q_goto C (off := 4) 30 (by decide +kernel) (by decide) ?_
      exact q_riP hm K q_z1 (by decide +kernel)
def m_X12_workOf (h0 : q_H) (a0 : Nat) (a1 : Int32) : Option Int32 :=
  (q_gn h0 a0 12 20).bind fun v1 =>
  (q_ai h0 v1 1 ((((12 : Int32) + ((5 : Int32) * a1)) + (4 : Int32)))).bind fun v2 =>
  some v2
set_option maxRecDepth 20000 in
set_option maxHeartbeats 1000000 in
theorem c_X12_workOf (l : Launch) (base : Nat) (D : va_G) (tc : Nat → ClassId) (sz : Nat) (h0 : q_H) (a0 : Nat) (a1 : Int32) {r : Int32} (hm : m_X12_workOf h0 a0 a1 = some r) : q_M l yX12_workOf cX12_workOf 2 (some .int) 0 0 0 0 base D tc [.ref a0, .int a1] sz h0 (some (.int r)) sz h0 := by
  refine q_starti (by decide) (Nat.le_of_ble_eq_true rfl) (fun Γ B K => ?_)
  obtain ⟨C, Rm, -⟩ := B
  have C : q_C Γ cX12_workOf RX12 := C
  show q_V Γ sz 0 0 h0 [(0, .ref a0), (1, .int a1)] [] 0
  unfold m_X12_workOf at hm
  refine q_aload_n C (k4 := 0) 0 rfl (by decide +kernel) ?_
  refine q_getn C fl_12_39 hm (by decide +kernel) (fun v1 hm => ?_)
  refine q_bipush C (n := 12) (v := 12) (by decide) (by decide +kernel) ?_
  refine q_iconst C (n := 5) (v := 5) (by decide) (by decide +kernel) ?_
  refine q_iload_n C (k4 := 1) 1 rfl (by decide +kernel) ?_
  refine q_imul C (by decide +kernel) ?_
  refine q_iadd C (by decide +kernel) ?_
  refine q_iconst C (n := 4) (v := 4) (by decide) (by decide +kernel) ?_
  refine q_iadd C (by decide +kernel) ?_
  refine q_ir C hm (by decide +kernel) (fun v2 hm => ?_)
  exact q_riP hm K rfl (by decide +kernel)
def m_X12_upOnes_30 (k4 : q_H → Nat → Int32 → Int32 → Option Int32) (h0 : q_H) (x0 : Nat) (x2 : Int32) (s0 : Int32) (s1 : Int32) : Option Int32 :=
  k4 h0 x0 ((s1 ||| s0)) ((x2 + (1 : Int32)))
set_option maxRecDepth 20000 in
set_option maxHeartbeats 1000000 in
theorem v_X12_upOnes_30 {Γ : q_G} {sz : Nat} {h0 : q_H} {r : Int32} (C : q_C Γ cX12_upOnes RX12) (Rm : q_Rm Γ 3 2 42 0 0) {k4 : q_H → Nat → Int32 → Int32 → Option Int32} (K : narrow .int (.int r) = .int r → q_K Γ cX12_upOnes .ireturn sz h0 0 0 [.int r]) (hk4 : ∀ (x0 : Nat) (x1 : Int32) (x2 : Int32), k4 h0 x0 x1 x2 = some r → q_V Γ sz 0 0 h0 [(0, .ref x0), (1, .int x1), (2, .int x2)] [] 4) : ∀ (x0 : Nat) (x2 : Int32) (s0 : Int32) (s1 : Int32), m_X12_upOnes_30 k4 h0 x0 x2 s0 s1 = some r → q_V Γ sz 0 0 h0 [(0, .ref x0), (2, .int x2)] [.int s0, .int s1] 30 := by
  intro x0 x2 s0 s1 hm
  unfold m_X12_upOnes_30 at hm
  refine q_ior C (by decide +kernel) ?_
  refine q_istore_n C Rm.1 (k4 := 1) (i := 1) rfl (lv' := [(1, .int ((s1 ||| s0))), (0, .ref x0), (2, .int x2)]) rfl (by decide) (by decide +kernel) ?_
  refine q_iinc C Rm.1 (i := 2) (n := 1) (v := (x2 + (1 : Int32))) 2 rfl (q_inc _ (by decide)) (lv' := [(2, .int ((x2 + (1 : Int32)))), (1, .int ((s1 ||| s0))), (0, .ref x0)]) rfl (by decide) (by decide +kernel) ?_
  refine q_goto C (off := -31) 4 (by decide +kernel) (by decide) ?_
  refine q_loc [2, 1, 0] rfl ?_
  exact hk4 _ _ _ hm
def m_X12_upOnes_4  : Nat → q_H → Nat → Int32 → Int32 → Option Int32
  | 0, _, _, _, _ => none
  | n + 1, h0, x0, x1, x2 =>
    (q_gn h0 x0 12 20).bind fun v1 =>
    (q_ai h0 v1 1 ((3 : Int32))).bind fun v2 =>
    if v2 ≤ x2 then
      some x1
    else
      (q_ca 12 h0 x0 (m_X12_isUp h0 x0 x2)).bind fun r3 =>
      if r3 = 0 then
        m_X12_upOnes_30 (m_X12_upOnes_4 n) h0 x0 x2 ((0 : Int32)) x1
      else
        m_X12_upOnes_30 (m_X12_upOnes_4 n) h0 x0 x2 (((1 : Int32) <<< (x2 &&& 31))) x1
set_option maxRecDepth 20000 in
set_option maxHeartbeats 1000000 in
theorem v_X12_upOnes_4 {Γ : q_G} {sz : Nat} {h0 : q_H} {r : Int32} (C : q_C Γ cX12_upOnes RX12) (Rm : q_Rm Γ 3 2 42 0 0)  (K : narrow .int (.int r) = .int r → q_K Γ cX12_upOnes .ireturn sz h0 0 0 [.int r])  : ∀ (n : Nat) (x0 : Nat) (x1 : Int32) (x2 : Int32), m_X12_upOnes_4 n h0 x0 x1 x2 = some r → q_V Γ sz 0 0 h0 [(0, .ref x0), (1, .int x1), (2, .int x2)] [] 4 := by
  intro n
  induction n with
  | zero => intro x0 x1 x2 hm; cases hm
  | succ n ih =>
    intro x0 x1 x2 hm
    unfold m_X12_upOnes_4 at hm
    refine q_iload_n C (k4 := 2) 2 rfl (by decide +kernel) ?_
    refine q_aload_n C (k4 := 0) 0 rfl (by decide +kernel) ?_
    refine q_getn C fl_12_39 hm (by decide +kernel) (fun v1 hm => ?_)
    refine q_iconst C (n := 3) (v := 3) (by decide) (by decide +kernel) ?_
    refine q_ir C hm (by decide +kernel) (fun v2 hm => ?_)
    refine q_icmp_ge C (off := 27) 38 hm (by decide +kernel) (by decide) (fun _ hm => ?_) (fun _ hm => ?_)
    · refine q_iload_n C (k4 := 1) 1 rfl (by decide +kernel) ?_
      exact q_riP hm K rfl (by decide +kernel)
    · refine q_iload_n C (k4 := 1) 1 rfl (by decide +kernel) ?_
      refine q_aload_n C (k4 := 0) 0 rfl (by decide +kernel) ?_
      refine q_iload_n C (k4 := 2) 2 rfl (by decide +kernel) ?_
      refine q_viP C Rm (As := [.int x2]) (rest := [.int x1]) Y_X12_isUp Yv_X12_isUp ml_X12_281 (by decide) (by decide) hm (fun r9 e9 => c_X12_isUp _ _ _ _ _ _ _ _ e9) rfl rfl (Nat.le_of_ble_eq_true rfl) (by decide +kernel) (fun r3 hm z4 => ?_)
      refine q_if_eq C (off := 9) 29 hm (by decide +kernel) (by decide) (fun _ hm => ?_) (fun _ hm => ?_)
      · refine q_iconst C (n := 0) (v := 0) (by decide) (by decide +kernel) ?_
        refine q_loc [0, 2] rfl ?_
        exact v_X12_upOnes_30 C Rm K ih _ _ _ _ hm
      · refine q_iconst C (n := 1) (v := 1) (by decide) (by decide +kernel) ?_
        refine q_iload_n C (k4 := 2) 2 rfl (by decide +kernel) ?_
        refine q_ishl C (by decide +kernel) ?_
        refine q_goto C (off := 4) 30 (by decide +kernel) (by decide) ?_
        refine q_loc [0, 2] rfl ?_
        exact v_X12_upOnes_30 C Rm K ih _ _ _ _ hm
def m_X12_upOnes (h0 : q_H) (a0 : Nat) : Option Int32 :=
  m_X12_upOnes_4 q_fu h0 a0 ((0 : Int32)) ((0 : Int32))
set_option maxRecDepth 20000 in
set_option maxHeartbeats 1000000 in
theorem c_X12_upOnes (l : Launch) (base : Nat) (D : va_G) (tc : Nat → ClassId) (sz : Nat) (h0 : q_H) (a0 : Nat) {r : Int32} (hm : m_X12_upOnes h0 a0 = some r) : q_M l yX12_upOnes cX12_upOnes 3 (some .int) 2 42 0 0 base D tc [.ref a0] sz h0 (some (.int r)) sz h0 := by
  refine q_starti (by decide) (Nat.le_of_ble_eq_true rfl) (fun Γ B K => ?_)
  obtain ⟨C, Rm, -⟩ := B
  have C : q_C Γ cX12_upOnes RX12 := C
  show q_V Γ sz 0 0 h0 [(0, .ref a0)] [] 0
  unfold m_X12_upOnes at hm
  refine q_iconst C (n := 0) (v := 0) (by decide) (by decide +kernel) ?_
  refine q_istore_n C Rm.1 (k4 := 1) (i := 1) rfl (lv' := [(1, .int ((0 : Int32))), (0, .ref a0)]) rfl (by decide) (by decide +kernel) ?_
  refine q_iconst C (n := 0) (v := 0) (by decide) (by decide +kernel) ?_
  refine q_istore_n C Rm.1 (k4 := 2) (i := 2) rfl (lv' := [(2, .int ((0 : Int32))), (1, .int ((0 : Int32))), (0, .ref a0)]) rfl (by decide) (by decide +kernel) ?_
  refine q_loc [2, 1, 0] rfl ?_
  exact v_X12_upOnes_4 C Rm K _ _ _ _ hm
def m_X12_onesOn_31 (k4 : q_H → Nat → Int32 → Int32 → Int32 → Option Int32) (h0 : q_H) (x0 : Nat) (x1 : Int32) (x3 : Int32) (s0 : Int32) (s1 : Int32) : Option Int32 :=
  k4 h0 x0 x1 ((s1 ||| s0)) ((x3 + (1 : Int32)))
set_option maxRecDepth 20000 in
set_option maxHeartbeats 1000000 in
theorem v_X12_onesOn_31 {Γ : q_G} {sz : Nat} {h0 : q_H} {r : Int32} (C : q_C Γ cX12_onesOn RX12) (Rm : q_Rm Γ 4 1 21 0 0) {k4 : q_H → Nat → Int32 → Int32 → Int32 → Option Int32} (K : narrow .int (.int r) = .int r → q_K Γ cX12_onesOn .ireturn sz h0 0 0 [.int r]) (hk4 : ∀ (x0 : Nat) (x1 : Int32) (x2 : Int32) (x3 : Int32), k4 h0 x0 x1 x2 x3 = some r → q_V Γ sz 0 0 h0 [(0, .ref x0), (1, .int x1), (2, .int x2), (3, .int x3)] [] 4) : ∀ (x0 : Nat) (x1 : Int32) (x3 : Int32) (s0 : Int32) (s1 : Int32), m_X12_onesOn_31 k4 h0 x0 x1 x3 s0 s1 = some r → q_V Γ sz 0 0 h0 [(0, .ref x0), (1, .int x1), (3, .int x3)] [.int s0, .int s1] 31 := by
  intro x0 x1 x3 s0 s1 hm
  unfold m_X12_onesOn_31 at hm
  refine q_ior C (by decide +kernel) ?_
  refine q_istore_n C Rm.1 (k4 := 2) (i := 2) rfl (lv' := [(2, .int ((s1 ||| s0))), (0, .ref x0), (1, .int x1), (3, .int x3)]) rfl (by decide) (by decide +kernel) ?_
  refine q_iinc C Rm.1 (i := 3) (n := 1) (v := (x3 + (1 : Int32))) 3 rfl (q_inc _ (by decide)) (lv' := [(3, .int ((x3 + (1 : Int32)))), (2, .int ((s1 ||| s0))), (0, .ref x0), (1, .int x1)]) rfl (by decide) (by decide +kernel) ?_
  refine q_goto C (off := -32) 4 (by decide +kernel) (by decide) ?_
  refine q_loc [2, 3, 1, 0] rfl ?_
  exact hk4 _ _ _ _ hm
def m_X12_onesOn_4  : Nat → q_H → Nat → Int32 → Int32 → Int32 → Option Int32
  | 0, _, _, _, _, _ => none
  | n + 1, h0, x0, x1, x2, x3 =>
    (q_gn h0 x0 12 20).bind fun v1 =>
    (q_ai h0 v1 1 ((3 : Int32))).bind fun v2 =>
    if v2 ≤ x3 then
      some x2
    else
      (q_ca 12 h0 x0 (m_X12_sideOf h0 x0 x3)).bind fun r3 =>
      if r3 = x1 then
        m_X12_onesOn_31 (m_X12_onesOn_4 n) h0 x0 x1 x3 (((1 : Int32) <<< (x3 &&& 31))) x2
      else
        m_X12_onesOn_31 (m_X12_onesOn_4 n) h0 x0 x1 x3 ((0 : Int32)) x2
set_option maxRecDepth 20000 in
set_option maxHeartbeats 1000000 in
theorem v_X12_onesOn_4 {Γ : q_G} {sz : Nat} {h0 : q_H} {r : Int32} (C : q_C Γ cX12_onesOn RX12) (Rm : q_Rm Γ 4 1 21 0 0)  (K : narrow .int (.int r) = .int r → q_K Γ cX12_onesOn .ireturn sz h0 0 0 [.int r])  : ∀ (n : Nat) (x0 : Nat) (x1 : Int32) (x2 : Int32) (x3 : Int32), m_X12_onesOn_4 n h0 x0 x1 x2 x3 = some r → q_V Γ sz 0 0 h0 [(0, .ref x0), (1, .int x1), (2, .int x2), (3, .int x3)] [] 4 := by
  intro n
  induction n with
  | zero => intro x0 x1 x2 x3 hm; cases hm
  | succ n ih =>
    intro x0 x1 x2 x3 hm
    unfold m_X12_onesOn_4 at hm
    refine q_iload_n C (k4 := 3) 3 rfl (by decide +kernel) ?_
    refine q_aload_n C (k4 := 0) 0 rfl (by decide +kernel) ?_
    refine q_getn C fl_12_39 hm (by decide +kernel) (fun v1 hm => ?_)
    refine q_iconst C (n := 3) (v := 3) (by decide) (by decide +kernel) ?_
    refine q_ir C hm (by decide +kernel) (fun v2 hm => ?_)
    refine q_icmp_ge C (off := 28) 39 hm (by decide +kernel) (by decide) (fun _ hm => ?_) (fun _ hm => ?_)
    · refine q_iload_n C (k4 := 2) 2 rfl (by decide +kernel) ?_
      exact q_riP hm K rfl (by decide +kernel)
    · refine q_iload_n C (k4 := 2) 2 rfl (by decide +kernel) ?_
      refine q_aload_n C (k4 := 0) 0 rfl (by decide +kernel) ?_
      refine q_iload_n C (k4 := 3) 3 rfl (by decide +kernel) ?_
      refine q_viP C Rm (As := [.int x3]) (rest := [.int x2]) Y_X12_sideOf Yv_X12_sideOf ml_X12_284 (by decide) (by decide) hm (fun r9 e9 => c_X12_sideOf _ _ _ _ _ _ _ _ e9) rfl rfl (Nat.le_of_ble_eq_true rfl) (by decide +kernel) (fun r3 hm z4 => ?_)
      refine q_iload_n C (k4 := 1) 1 rfl (by decide +kernel) ?_
      refine q_icmp_ne C (off := 9) 30 hm (by decide +kernel) (by decide) (fun _ hm => ?_) (fun _ hm => ?_)
      · refine q_iconst C (n := 0) (v := 0) (by decide) (by decide +kernel) ?_
        refine q_loc [0, 1, 3] rfl ?_
        exact v_X12_onesOn_31 C Rm K ih _ _ _ _ _ hm
      · refine q_iconst C (n := 1) (v := 1) (by decide) (by decide +kernel) ?_
        refine q_iload_n C (k4 := 3) 3 rfl (by decide +kernel) ?_
        refine q_ishl C (by decide +kernel) ?_
        refine q_goto C (off := 4) 31 (by decide +kernel) (by decide) ?_
        refine q_loc [0, 1, 3] rfl ?_
        exact v_X12_onesOn_31 C Rm K ih _ _ _ _ _ hm
def m_X12_onesOn (h0 : q_H) (a0 : Nat) (a1 : Int32) : Option Int32 :=
  m_X12_onesOn_4 q_fu h0 a0 a1 ((0 : Int32)) ((0 : Int32))
set_option maxRecDepth 20000 in
set_option maxHeartbeats 1000000 in
theorem c_X12_onesOn (l : Launch) (base : Nat) (D : va_G) (tc : Nat → ClassId) (sz : Nat) (h0 : q_H) (a0 : Nat) (a1 : Int32) {r : Int32} (hm : m_X12_onesOn h0 a0 a1 = some r) : q_M l yX12_onesOn cX12_onesOn 4 (some .int) 1 21 0 0 base D tc [.ref a0, .int a1] sz h0 (some (.int r)) sz h0 := by
  refine q_starti (by decide) (Nat.le_of_ble_eq_true rfl) (fun Γ B K => ?_)
  obtain ⟨C, Rm, -⟩ := B
  have C : q_C Γ cX12_onesOn RX12 := C
  show q_V Γ sz 0 0 h0 [(0, .ref a0), (1, .int a1)] [] 0
  unfold m_X12_onesOn at hm
  refine q_iconst C (n := 0) (v := 0) (by decide) (by decide +kernel) ?_
  refine q_istore_n C Rm.1 (k4 := 2) (i := 2) rfl (lv' := [(2, .int ((0 : Int32))), (0, .ref a0), (1, .int a1)]) rfl (by decide) (by decide +kernel) ?_
  refine q_iconst C (n := 0) (v := 0) (by decide) (by decide +kernel) ?_
  refine q_istore_n C Rm.1 (k4 := 3) (i := 3) rfl (lv' := [(3, .int ((0 : Int32))), (2, .int ((0 : Int32))), (0, .ref a0), (1, .int a1)]) rfl (by decide) (by decide +kernel) ?_
  refine q_loc [2, 3, 1, 0] rfl ?_
  exact v_X12_onesOn_4 C Rm K _ _ _ _ _ hm
def m_X12_workAll_4  : Nat → q_H → Nat → Int32 → Int32 → Option Int32
  | 0, _, _, _, _ => none
  | n + 1, h0, x0, x1, x2 =>
    (q_gn h0 x0 12 20).bind fun v1 =>
    (q_ai h0 v1 1 ((3 : Int32))).bind fun v2 =>
    if v2 ≤ x2 then
      some x1
    else
      (q_ca 12 h0 x0 (m_X12_workOf h0 x0 x2)).bind fun r3 =>
      m_X12_workAll_4 n h0 x0 ((x1 + r3)) ((x2 + (1 : Int32)))
set_option maxRecDepth 20000 in
set_option maxHeartbeats 1000000 in
theorem v_X12_workAll_4 {Γ : q_G} {sz : Nat} {h0 : q_H} {r : Int32} (C : q_C Γ cX12_workAll RX12) (Rm : q_Rm Γ 3 1 21 0 0)  (K : narrow .int (.int r) = .int r → q_K Γ cX12_workAll .ireturn sz h0 0 0 [.int r])  : ∀ (n : Nat) (x0 : Nat) (x1 : Int32) (x2 : Int32), m_X12_workAll_4 n h0 x0 x1 x2 = some r → q_V Γ sz 0 0 h0 [(0, .ref x0), (1, .int x1), (2, .int x2)] [] 4 := by
  intro n
  induction n with
  | zero => intro x0 x1 x2 hm; cases hm
  | succ n ih =>
    intro x0 x1 x2 hm
    unfold m_X12_workAll_4 at hm
    refine q_iload_n C (k4 := 2) 2 rfl (by decide +kernel) ?_
    refine q_aload_n C (k4 := 0) 0 rfl (by decide +kernel) ?_
    refine q_getn C fl_12_39 hm (by decide +kernel) (fun v1 hm => ?_)
    refine q_iconst C (n := 3) (v := 3) (by decide) (by decide +kernel) ?_
    refine q_ir C hm (by decide +kernel) (fun v2 hm => ?_)
    refine q_icmp_ge C (off := 17) 28 hm (by decide +kernel) (by decide) (fun _ hm => ?_) (fun _ hm => ?_)
    · refine q_iload_n C (k4 := 1) 1 rfl (by decide +kernel) ?_
      exact q_riP hm K rfl (by decide +kernel)
    · refine q_iload_n C (k4 := 1) 1 rfl (by decide +kernel) ?_
      refine q_aload_n C (k4 := 0) 0 rfl (by decide +kernel) ?_
      refine q_iload_n C (k4 := 2) 2 rfl (by decide +kernel) ?_
      refine q_viP C Rm (As := [.int x2]) (rest := [.int x1]) Y_X12_workOf Yv_X12_workOf ml_X12_287 (by decide) (by decide) hm (fun r9 e9 => c_X12_workOf _ _ _ _ _ _ _ _ e9) rfl rfl (Nat.le_of_ble_eq_true rfl) (by decide +kernel) (fun r3 hm z4 => ?_)
      refine q_iadd C (by decide +kernel) ?_
      refine q_istore_n C Rm.1 (k4 := 1) (i := 1) rfl (lv' := [(1, .int ((x1 + r3))), (0, .ref x0), (2, .int x2)]) rfl (by decide) (by decide +kernel) ?_
      refine q_iinc C Rm.1 (i := 2) (n := 1) (v := (x2 + (1 : Int32))) 2 rfl (q_inc _ (by decide)) (lv' := [(2, .int ((x2 + (1 : Int32)))), (1, .int ((x1 + r3))), (0, .ref x0)]) rfl (by decide) (by decide +kernel) ?_
      refine q_goto C (off := -21) 4 (by decide +kernel) (by decide) ?_
      refine q_loc [2, 1, 0] rfl ?_
      exact ih _ _ _ hm
def m_X12_workAll (h0 : q_H) (a0 : Nat) : Option Int32 :=
  m_X12_workAll_4 q_fu h0 a0 ((0 : Int32)) ((0 : Int32))
set_option maxRecDepth 20000 in
set_option maxHeartbeats 1000000 in
theorem c_X12_workAll (l : Launch) (base : Nat) (D : va_G) (tc : Nat → ClassId) (sz : Nat) (h0 : q_H) (a0 : Nat) {r : Int32} (hm : m_X12_workAll h0 a0 = some r) : q_M l yX12_workAll cX12_workAll 3 (some .int) 1 21 0 0 base D tc [.ref a0] sz h0 (some (.int r)) sz h0 := by
  refine q_starti (by decide) (Nat.le_of_ble_eq_true rfl) (fun Γ B K => ?_)
  obtain ⟨C, Rm, -⟩ := B
  have C : q_C Γ cX12_workAll RX12 := C
  show q_V Γ sz 0 0 h0 [(0, .ref a0)] [] 0
  unfold m_X12_workAll at hm
  refine q_iconst C (n := 0) (v := 0) (by decide) (by decide +kernel) ?_
  refine q_istore_n C Rm.1 (k4 := 1) (i := 1) rfl (lv' := [(1, .int ((0 : Int32))), (0, .ref a0)]) rfl (by decide) (by decide +kernel) ?_
  refine q_iconst C (n := 0) (v := 0) (by decide) (by decide +kernel) ?_
  refine q_istore_n C Rm.1 (k4 := 2) (i := 2) rfl (lv' := [(2, .int ((0 : Int32))), (1, .int ((0 : Int32))), (0, .ref a0)]) rfl (by decide) (by decide +kernel) ?_
  refine q_loc [2, 1, 0] rfl ?_
  exact v_X12_workAll_4 C Rm K _ _ _ _ hm
def m_X12_isOver (h0 : q_H) (a0 : Nat) : Option Int32 :=
  (q_gn h0 a0 12 20).bind fun v1 =>
  (q_ai h0 v1 1 ((11 : Int32))).bind fun v2 =>
  (q_gn h0 a0 12 20).bind fun v3 =>
  (q_ai h0 v3 1 ((1 : Int32))).bind fun v4 =>
  if v4 ≤ v2 then
    some ((1 : Int32))
  else
    (q_gn h0 a0 12 20).bind fun v5 =>
    (q_ai h0 v5 1 ((11 : Int32))).bind fun v6 =>
    (q_gn h0 a0 12 20).bind fun v7 =>
    (q_ai h0 v7 1 ((1 : Int32))).bind fun v8 =>
    if (0 - v8) < v6 then
      some ((0 : Int32))
    else
      some ((1 : Int32))
set_option maxRecDepth 20000 in
set_option maxHeartbeats 1000000 in
theorem c_X12_isOver (l : Launch) (base : Nat) (D : va_G) (tc : Nat → ClassId) (sz : Nat) (h0 : q_H) (a0 : Nat) {r : Int32} (hm : m_X12_isOver h0 a0 = some r) : q_M l yX12_isOver cX12_isOver 1 (some .boolean) 0 0 0 0 base D tc [.ref a0] sz h0 (some (.int r)) sz h0 := by
  refine q_starti (by decide) (Nat.le_of_ble_eq_true rfl) (fun Γ B K => ?_)
  obtain ⟨C, Rm, -⟩ := B
  have C : q_C Γ cX12_isOver RX12 := C
  show q_V Γ sz 0 0 h0 [(0, .ref a0)] [] 0
  unfold m_X12_isOver at hm
  refine q_aload_n C (k4 := 0) 0 rfl (by decide +kernel) ?_
  refine q_getn C fl_12_39 hm (by decide +kernel) (fun v1 hm => ?_)
  refine q_bipush C (n := 11) (v := 11) (by decide) (by decide +kernel) ?_
  refine q_ir C hm (by decide +kernel) (fun v2 hm => ?_)
  refine q_aload_n C (k4 := 0) 0 rfl (by decide +kernel) ?_
  refine q_getn C fl_12_39 hm (by decide +kernel) (fun v3 hm => ?_)
  refine q_iconst C (n := 1) (v := 1) (by decide) (by decide +kernel) ?_
  refine q_ir C hm (by decide +kernel) (fun v4 hm => ?_)
  refine q_icmp_ge C (off := 20) 33 hm (by decide +kernel) (by decide) (fun _ hm => ?_) (fun _ hm => ?_)
  · refine q_iconst C (n := 1) (v := 1) (by decide) (by decide +kernel) ?_
    refine q_goto C (off := 4) 38 (by decide +kernel) (by decide) ?_
    exact q_riP hm K q_z1 (by decide +kernel)
  · refine q_aload_n C (k4 := 0) 0 rfl (by decide +kernel) ?_
    refine q_getn C fl_12_39 hm (by decide +kernel) (fun v5 hm => ?_)
    refine q_bipush C (n := 11) (v := 11) (by decide) (by decide +kernel) ?_
    refine q_ir C hm (by decide +kernel) (fun v6 hm => ?_)
    refine q_aload_n C (k4 := 0) 0 rfl (by decide +kernel) ?_
    refine q_getn C fl_12_39 hm (by decide +kernel) (fun v7 hm => ?_)
    refine q_iconst C (n := 1) (v := 1) (by decide) (by decide +kernel) ?_
    refine q_ir C hm (by decide +kernel) (fun v8 hm => ?_)
    refine q_ineg C (by decide +kernel) ?_
    refine q_icmp_gt C (off := 7) 37 hm (by decide +kernel) (by decide) (fun _ hm => ?_) (fun _ hm => ?_)
    · refine q_iconst C (n := 0) (v := 0) (by decide) (by decide +kernel) ?_
      exact q_riP hm K q_z0 (by decide +kernel)
    · refine q_iconst C (n := 1) (v := 1) (by decide) (by decide +kernel) ?_
      refine q_goto C (off := 4) 38 (by decide +kernel) (by decide) ?_
      exact q_riP hm K q_z1 (by decide +kernel)
def m_X12_towards (h0 : q_H) (a0 : Nat) (a1 : Int32) : Option Int32 :=
  (q_ca 12 h0 a0 (m_X12_sideOf h0 a0 a1)).bind fun r1 =>
  if r1 = (1 : Int32) then
    (q_gn h0 a0 12 20).bind fun v5 =>
    (q_ai h0 v5 1 ((11 : Int32))).bind fun v6 =>
    some v6
  else
    (q_gn h0 a0 12 20).bind fun v3 =>
    (q_ai h0 v3 1 ((11 : Int32))).bind fun v4 =>
    some ((0 - v4))
set_option maxRecDepth 20000 in
set_option maxHeartbeats 1000000 in
theorem c_X12_towards (l : Launch) (base : Nat) (D : va_G) (tc : Nat → ClassId) (sz : Nat) (h0 : q_H) (a0 : Nat) (a1 : Int32) {r : Int32} (hm : m_X12_towards h0 a0 a1 = some r) : q_M l yX12_towards cX12_towards 2 (some .int) 1 21 0 0 base D tc [.ref a0, .int a1] sz h0 (some (.int r)) sz h0 := by
  refine q_starti (by decide) (Nat.le_of_ble_eq_true rfl) (fun Γ B K => ?_)
  obtain ⟨C, Rm, -⟩ := B
  have C : q_C Γ cX12_towards RX12 := C
  show q_V Γ sz 0 0 h0 [(0, .ref a0), (1, .int a1)] [] 0
  unfold m_X12_towards at hm
  refine q_aload_n C (k4 := 0) 0 rfl (by decide +kernel) ?_
  refine q_iload_n C (k4 := 1) 1 rfl (by decide +kernel) ?_
  refine q_viP C Rm (As := [.int a1]) (rest := []) Y_X12_sideOf Yv_X12_sideOf ml_X12_284 (by decide) (by decide) hm (fun r9 e9 => c_X12_sideOf _ _ _ _ _ _ _ _ e9) rfl rfl (Nat.le_of_ble_eq_true rfl) (by decide +kernel) (fun r1 hm z2 => ?_)
  refine q_iconst C (n := 1) (v := 1) (by decide) (by decide +kernel) ?_
  refine q_icmp_ne C (off := 13) 19 hm (by decide +kernel) (by decide) (fun _ hm => ?_) (fun _ hm => ?_)
  · refine q_aload_n C (k4 := 0) 0 rfl (by decide +kernel) ?_
    refine q_getn C fl_12_39 hm (by decide +kernel) (fun v3 hm => ?_)
    refine q_bipush C (n := 11) (v := 11) (by decide) (by decide +kernel) ?_
    refine q_ir C hm (by decide +kernel) (fun v4 hm => ?_)
    refine q_ineg C (by decide +kernel) ?_
    exact q_riP hm K rfl (by decide +kernel)
  · refine q_aload_n C (k4 := 0) 0 rfl (by decide +kernel) ?_
    refine q_getn C fl_12_39 hm (by decide +kernel) (fun v5 hm => ?_)
    refine q_bipush C (n := 11) (v := 11) (by decide) (by decide +kernel) ?_
    refine q_ir C hm (by decide +kernel) (fun v6 hm => ?_)
    refine q_goto C (off := 11) 27 (by decide +kernel) (by decide) ?_
    exact q_riP hm K rfl (by decide +kernel)
def m_X12_force_16  (h : q_H) (x0 : Nat) (x1 : Int32) : Option (Int32 × q_H) :=
  (q_gi h x0 12 21).bind fun v3 =>
  (q_pf h x0 12 21 (.int x1)).bind fun h4 =>
  some (v3, h4)
set_option maxRecDepth 20000 in
set_option maxHeartbeats 1000000 in
theorem v_X12_force_16 {Γ : q_G} {sz : Nat} {r : Int32} {h' : q_H} (C : q_C Γ cX12_force RX12) (Rm : q_Rm Γ 3 1 21 0 0)  (K : narrow .int (.int r) = .int r → q_K Γ cX12_force .ireturn sz h' 0 0 [.int r])  : ∀ (h : q_H) (x0 : Nat) (x1 : Int32), m_X12_force_16 h x0 x1 = some (r, h') → q_V Γ sz 0 0 h [(0, .ref x0), (1, .int x1)] [] 16 := by
  intro h x0 x1 hm
  unfold m_X12_force_16 at hm
  refine q_aload_n C (k4 := 0) 0 rfl (by decide +kernel) ?_
  refine q_geti C fl_12_42 hm (by decide +kernel) (fun v3 hm => ?_)
  refine q_istore_n C Rm.1 (k4 := 2) (i := 2) rfl (lv' := [(2, .int v3), (0, .ref x0), (1, .int x1)]) rfl (by decide) (by decide +kernel) ?_
  refine q_aload_n C (k4 := 0) 1 rfl (by decide +kernel) ?_
  refine q_iload_n C (k4 := 1) 2 rfl (by decide +kernel) ?_
  refine q_putf C fl_12_42 hm rfl rfl (by decide +kernel) (fun h4 hm => ?_)
  refine q_iload_n C (k4 := 2) 0 rfl (by decide +kernel) ?_
  exact q_riS hm K rfl (by decide +kernel)
def m_X12_force (h : q_H) (a0 : Nat) (a1 : Int32) : Option (Int32 × q_H) :=
  if a1 = (-1 : Int32) then
    m_X12_force_16 h a0 a1
  else
    (q_ca 12 h a0 (m_X12_isRule h a0 a1)).bind fun r1 =>
    if r1 = 0 then
      some ((-2 : Int32), h)
    else
      m_X12_force_16 h a0 a1
set_option maxRecDepth 20000 in
set_option maxHeartbeats 1000000 in
theorem c_X12_force (l : Launch) (base : Nat) (D : va_G) (tc : Nat → ClassId) (sz : Nat) (h : q_H) (a0 : Nat) (a1 : Int32) {r : Int32} {h' : q_H} (hm : m_X12_force h a0 a1 = some (r, h')) : q_M l yX12_force cX12_force 3 (some .int) 1 21 0 0 base D tc [.ref a0, .int a1] sz h (some (.int r)) sz h' := by
  refine q_starti (by decide) (Nat.le_of_ble_eq_true rfl) (fun Γ B K => ?_)
  obtain ⟨C, Rm, -⟩ := B
  have C : q_C Γ cX12_force RX12 := C
  show q_V Γ sz 0 0 h [(0, .ref a0), (1, .int a1)] [] 0
  unfold m_X12_force at hm
  refine q_iload_n C (k4 := 1) 1 rfl (by decide +kernel) ?_
  refine q_iconst C (n := (-1)) (v := (-1)) (by decide) (by decide +kernel) ?_
  refine q_icmp_eq C (off := 14) 16 hm (by decide +kernel) (by decide) (fun _ hm => ?_) (fun _ hm => ?_)
  · exact v_X12_force_16 C Rm K _ _ _ hm
  · refine q_aload_n C (k4 := 0) 0 rfl (by decide +kernel) ?_
    refine q_iload_n C (k4 := 1) 1 rfl (by decide +kernel) ?_
    refine q_viP C Rm (As := [.int a1]) (rest := []) Y_X12_isRule Yv_X12_isRule ml_X12_290 (by decide) (by decide) hm (fun r9 e9 => c_X12_isRule _ _ _ _ _ _ _ _ e9) rfl rfl (Nat.le_of_ble_eq_true rfl) (by decide +kernel) (fun r1 hm z2 => ?_)
    refine q_if_ne C (off := 6) 16 hm (by decide +kernel) (by decide) (fun _ hm => ?_) (fun _ hm => ?_)
    · exact v_X12_force_16 C Rm K _ _ _ hm
    · refine q_bipush C (n := (-2)) (v := (-2)) (by decide) (by decide +kernel) ?_
      exact q_riS hm K rfl (by decide +kernel)
def m_X12_puller (h0 : q_H) (a0 : Nat) (a1 : Int32) (a2 : Int32) : Option Int32 :=
  (q_ca 12 h0 a0 (m_X12_isPuller h0 a0 a1)).bind fun r1 =>
  if r1 = 0 then
    some ((-1 : Int32))
  else
    if a2 = 0 then
      (q_ca 12 h0 a0 (m_X12_sideOf h0 a0 a1)).bind fun r3 =>
      some r3
    else
    if a2 = 1 then
      (q_gn h0 a0 12 20).bind fun v5 =>
      (q_ai h0 v5 1 (((52 : Int32) + a1))).bind fun v6 =>
      some v6
    else
    if a2 = 2 then
      (q_ca 12 h0 a0 (m_X12_windOf h0 a0 a1)).bind fun r7 =>
      some r7
    else
    if a2 = 3 then
      (q_gn h0 a0 12 20).bind fun v9 =>
      (q_ai h0 v9 1 (((60 : Int32) + a1))).bind fun v10 =>
      some v10
    else
    if a2 = 4 then
      (q_ca 12 h0 a0 (m_X12_placeOf h0 a0 a1)).bind fun r11 =>
      some r11
    else
    if a2 = 5 then
      (q_ca 12 h0 a0 (m_X12_isUp h0 a0 a1)).bind fun r13 =>
      if r13 = 0 then
        some ((0 : Int32))
      else
        some ((1 : Int32))
    else
    if a2 = 6 then
      (q_ca 12 h0 a0 (m_X12_workOf h0 a0 a1)).bind fun r15 =>
      some r15
    else
    some ((-1 : Int32))
set_option maxRecDepth 20000 in
set_option maxHeartbeats 1000000 in
theorem c_X12_puller (l : Launch) (base : Nat) (D : va_G) (tc : Nat → ClassId) (sz : Nat) (h0 : q_H) (a0 : Nat) (a1 : Int32) (a2 : Int32) {r : Int32} (hm : m_X12_puller h0 a0 a1 a2 = some r) : q_M l yX12_puller cX12_puller 3 (some .int) 2 42 0 0 base D tc [.ref a0, .int a1, .int a2] sz h0 (some (.int r)) sz h0 := by
  refine q_starti (by decide) (Nat.le_of_ble_eq_true rfl) (fun Γ B K => ?_)
  obtain ⟨C, Rm, -⟩ := B
  have C : q_C Γ cX12_puller RX12 := C
  show q_V Γ sz 0 0 h0 [(0, .ref a0), (1, .int a1), (2, .int a2)] [] 0
  unfold m_X12_puller at hm
  refine q_aload_n C (k4 := 0) 0 rfl (by decide +kernel) ?_
  refine q_iload_n C (k4 := 1) 1 rfl (by decide +kernel) ?_
  refine q_viP C Rm (As := [.int a1]) (rest := []) Y_X12_isPuller Yv_X12_isPuller ml_X12_278 (by decide) (by decide) hm (fun r9 e9 => c_X12_isPuller _ _ _ _ _ _ _ _ e9) rfl rfl (Nat.le_of_ble_eq_true rfl) (by decide +kernel) (fun r1 hm z2 => ?_)
  refine q_if_ne C (off := 5) 10 hm (by decide +kernel) (by decide) (fun _ hm => ?_) (fun _ hm => ?_)
  · refine q_iload_n C (k4 := 2) 2 rfl (by decide +kernel) ?_
    by_cases c11_0 : a2 = 0
    · rw [if_pos c11_0] at hm
      refine q_tsIn C (dflt := 99) (lo := 0) (hi := 6) (offs := #[41, 47, 57, 63, 73, 79, 93]) (len := 41) (41) 52 (by decide +kernel) (by rw [c11_0]; decide) (by rw [c11_0]; decide) (by rw [c11_0]; decide) (by decide) ?_
      refine q_aload_n C (k4 := 0) 0 rfl (by decide +kernel) ?_
      refine q_iload_n C (k4 := 1) 1 rfl (by decide +kernel) ?_
      refine q_viP C Rm (As := [.int a1]) (rest := []) Y_X12_sideOf Yv_X12_sideOf ml_X12_284 (by decide) (by decide) hm (fun r9 e9 => c_X12_sideOf _ _ _ _ _ _ _ _ e9) rfl rfl (Nat.le_of_ble_eq_true rfl) (by decide +kernel) (fun r3 hm z4 => ?_)
      exact q_riP hm K rfl (by decide +kernel)
    rw [if_neg c11_0] at hm
    by_cases c11_1 : a2 = 1
    · rw [if_pos c11_1] at hm
      refine q_tsIn C (dflt := 99) (lo := 0) (hi := 6) (offs := #[41, 47, 57, 63, 73, 79, 93]) (len := 41) (47) 58 (by decide +kernel) (by rw [c11_1]; decide) (by rw [c11_1]; decide) (by rw [c11_1]; decide) (by decide) ?_
      refine q_aload_n C (k4 := 0) 0 rfl (by decide +kernel) ?_
      refine q_getn C fl_12_39 hm (by decide +kernel) (fun v5 hm => ?_)
      refine q_bipush C (n := 52) (v := 52) (by decide) (by decide +kernel) ?_
      refine q_iload_n C (k4 := 1) 1 rfl (by decide +kernel) ?_
      refine q_iadd C (by decide +kernel) ?_
      refine q_ir C hm (by decide +kernel) (fun v6 hm => ?_)
      exact q_riP hm K rfl (by decide +kernel)
    rw [if_neg c11_1] at hm
    by_cases c11_2 : a2 = 2
    · rw [if_pos c11_2] at hm
      refine q_tsIn C (dflt := 99) (lo := 0) (hi := 6) (offs := #[41, 47, 57, 63, 73, 79, 93]) (len := 41) (57) 68 (by decide +kernel) (by rw [c11_2]; decide) (by rw [c11_2]; decide) (by rw [c11_2]; decide) (by decide) ?_
      refine q_aload_n C (k4 := 0) 0 rfl (by decide +kernel) ?_
      refine q_iload_n C (k4 := 1) 1 rfl (by decide +kernel) ?_
      refine q_viP C Rm (As := [.int a1]) (rest := []) Y_X12_windOf Yv_X12_windOf ml_X12_293 (by decide) (by decide) hm (fun r9 e9 => c_X12_windOf _ _ _ _ _ _ _ _ e9) rfl rfl (Nat.le_of_ble_eq_true rfl) (by decide +kernel) (fun r7 hm z8 => ?_)
      exact q_riP hm K rfl (by decide +kernel)
    rw [if_neg c11_2] at hm
    by_cases c11_3 : a2 = 3
    · rw [if_pos c11_3] at hm
      refine q_tsIn C (dflt := 99) (lo := 0) (hi := 6) (offs := #[41, 47, 57, 63, 73, 79, 93]) (len := 41) (63) 74 (by decide +kernel) (by rw [c11_3]; decide) (by rw [c11_3]; decide) (by rw [c11_3]; decide) (by decide) ?_
      refine q_aload_n C (k4 := 0) 0 rfl (by decide +kernel) ?_
      refine q_getn C fl_12_39 hm (by decide +kernel) (fun v9 hm => ?_)
      refine q_bipush C (n := 60) (v := 60) (by decide) (by decide +kernel) ?_
      refine q_iload_n C (k4 := 1) 1 rfl (by decide +kernel) ?_
      refine q_iadd C (by decide +kernel) ?_
      refine q_ir C hm (by decide +kernel) (fun v10 hm => ?_)
      exact q_riP hm K rfl (by decide +kernel)
    rw [if_neg c11_3] at hm
    by_cases c11_4 : a2 = 4
    · rw [if_pos c11_4] at hm
      refine q_tsIn C (dflt := 99) (lo := 0) (hi := 6) (offs := #[41, 47, 57, 63, 73, 79, 93]) (len := 41) (73) 84 (by decide +kernel) (by rw [c11_4]; decide) (by rw [c11_4]; decide) (by rw [c11_4]; decide) (by decide) ?_
      refine q_aload_n C (k4 := 0) 0 rfl (by decide +kernel) ?_
      refine q_iload_n C (k4 := 1) 1 rfl (by decide +kernel) ?_
      refine q_viP C Rm (As := [.int a1]) (rest := []) Y_X12_placeOf Yv_X12_placeOf ml_X12_296 (by decide) (by decide) hm (fun r9 e9 => c_X12_placeOf _ _ _ _ _ _ _ _ e9) rfl rfl (Nat.le_of_ble_eq_true rfl) (by decide +kernel) (fun r11 hm z12 => ?_)
      exact q_riP hm K rfl (by decide +kernel)
    rw [if_neg c11_4] at hm
    by_cases c11_5 : a2 = 5
    · rw [if_pos c11_5] at hm
      refine q_tsIn C (dflt := 99) (lo := 0) (hi := 6) (offs := #[41, 47, 57, 63, 73, 79, 93]) (len := 41) (79) 90 (by decide +kernel) (by rw [c11_5]; decide) (by rw [c11_5]; decide) (by rw [c11_5]; decide) (by decide) ?_
      refine q_aload_n C (k4 := 0) 0 rfl (by decide +kernel) ?_
      refine q_iload_n C (k4 := 1) 1 rfl (by decide +kernel) ?_
      refine q_viP C Rm (As := [.int a1]) (rest := []) Y_X12_isUp Yv_X12_isUp ml_X12_281 (by decide) (by decide) hm (fun r9 e9 => c_X12_isUp _ _ _ _ _ _ _ _ e9) rfl rfl (Nat.le_of_ble_eq_true rfl) (by decide +kernel) (fun r13 hm z14 => ?_)
      refine q_if_eq C (off := 7) 102 hm (by decide +kernel) (by decide) (fun _ hm => ?_) (fun _ hm => ?_)
      · refine q_iconst C (n := 0) (v := 0) (by decide) (by decide +kernel) ?_
        exact q_riP hm K rfl (by decide +kernel)
      · refine q_iconst C (n := 1) (v := 1) (by decide) (by decide +kernel) ?_
        refine q_goto C (off := 4) 103 (by decide +kernel) (by decide) ?_
        exact q_riP hm K rfl (by decide +kernel)
    rw [if_neg c11_5] at hm
    by_cases c11_6 : a2 = 6
    · rw [if_pos c11_6] at hm
      refine q_tsIn C (dflt := 99) (lo := 0) (hi := 6) (offs := #[41, 47, 57, 63, 73, 79, 93]) (len := 41) (93) 104 (by decide +kernel) (by rw [c11_6]; decide) (by rw [c11_6]; decide) (by rw [c11_6]; decide) (by decide) ?_
      refine q_aload_n C (k4 := 0) 0 rfl (by decide +kernel) ?_
      refine q_iload_n C (k4 := 1) 1 rfl (by decide +kernel) ?_
      refine q_viP C Rm (As := [.int a1]) (rest := []) Y_X12_workOf Yv_X12_workOf ml_X12_287 (by decide) (by decide) hm (fun r9 e9 => c_X12_workOf _ _ _ _ _ _ _ _ e9) rfl rfl (Nat.le_of_ble_eq_true rfl) (by decide +kernel) (fun r15 hm z16 => ?_)
      exact q_riP hm K rfl (by decide +kernel)
    rw [if_neg c11_6] at hm
    have nc11_0 := lv_neT c11_0 (show (0 : Int32).toInt = 0 from by decide)
    have nc11_1 := lv_neT c11_1 (show (1 : Int32).toInt = 1 from by decide)
    have nc11_2 := lv_neT c11_2 (show (2 : Int32).toInt = 2 from by decide)
    have nc11_3 := lv_neT c11_3 (show (3 : Int32).toInt = 3 from by decide)
    have nc11_4 := lv_neT c11_4 (show (4 : Int32).toInt = 4 from by decide)
    have nc11_5 := lv_neT c11_5 (show (5 : Int32).toInt = 5 from by decide)
    have nc11_6 := lv_neT c11_6 (show (6 : Int32).toInt = 6 from by decide)
    refine q_tsOut C (dflt := 99) (lo := 0) (hi := 6) (offs := #[41, 47, 57, 63, 73, 79, 93]) (len := 41) 110 (by decide +kernel) (by omega) (by decide) ?_
    refine q_iconst C (n := (-1)) (v := (-1)) (by decide) (by decide +kernel) ?_
    exact q_riP hm K rfl (by decide +kernel)
  · refine q_iconst C (n := (-1)) (v := (-1)) (by decide) (by decide +kernel) ?_
    exact q_riP hm K rfl (by decide +kernel)
def m_X12_ribbon (h0 : q_H) (a0 : Nat) : Option Int32 :=
  (q_ca 12 h0 a0 (m_X12_isRope h0 a0)).bind fun r1 =>
  if r1 = 0 then
    some ((-1 : Int32))
  else
    (q_gn h0 a0 12 20).bind fun v3 =>
    (q_ai h0 v3 1 ((11 : Int32))).bind fun v4 =>
    some ((v4 + (100 : Int32)))
set_option maxRecDepth 20000 in
set_option maxHeartbeats 1000000 in
theorem c_X12_ribbon (l : Launch) (base : Nat) (D : va_G) (tc : Nat → ClassId) (sz : Nat) (h0 : q_H) (a0 : Nat) {r : Int32} (hm : m_X12_ribbon h0 a0 = some r) : q_M l yX12_ribbon cX12_ribbon 1 (some .int) 1 20 0 0 base D tc [.ref a0] sz h0 (some (.int r)) sz h0 := by
  refine q_starti (by decide) (Nat.le_of_ble_eq_true rfl) (fun Γ B K => ?_)
  obtain ⟨C, Rm, -⟩ := B
  have C : q_C Γ cX12_ribbon RX12 := C
  show q_V Γ sz 0 0 h0 [(0, .ref a0)] [] 0
  unfold m_X12_ribbon at hm
  refine q_aload_n C (k4 := 0) 0 rfl (by decide +kernel) ?_
  refine q_viP C Rm (As := []) (rest := []) Y_X12_isRope Yv_X12_isRope ml_X12_299 (by decide) (by decide) hm (fun r9 e9 => c_X12_isRope _ _ _ _ _ _ _ e9) rfl rfl (Nat.le_of_ble_eq_true rfl) (by decide +kernel) (fun r1 hm z2 => ?_)
  refine q_if_eq C (off := 16) 20 hm (by decide +kernel) (by decide) (fun _ hm => ?_) (fun _ hm => ?_)
  · refine q_iconst C (n := (-1)) (v := (-1)) (by decide) (by decide +kernel) ?_
    exact q_riP hm K rfl (by decide +kernel)
  · refine q_aload_n C (k4 := 0) 0 rfl (by decide +kernel) ?_
    refine q_getn C fl_12_39 hm (by decide +kernel) (fun v3 hm => ?_)
    refine q_bipush C (n := 11) (v := 11) (by decide) (by decide +kernel) ?_
    refine q_ir C hm (by decide +kernel) (fun v4 hm => ?_)
    refine q_bipush C (n := 100) (v := 100) (by decide) (by decide +kernel) ?_
    refine q_iadd C (by decide +kernel) ?_
    refine q_goto C (off := 4) 21 (by decide +kernel) (by decide) ?_
    exact q_riP hm K rfl (by decide +kernel)
def m_X12_summedBy_58  (h : q_H) (x0 : Nat) (x1 : Int32) (x3 : Int32) : Option (Int64 × q_H) :=
  (q_gn h x0 12 5).bind fun v11 =>
  (q_ai h v11 1 x3).bind fun v12 =>
  (q_gn h x0 12 5).bind fun v13 =>
  (q_ai h v13 1 ((x3 + (1 : Int32)))).bind fun v14 =>
  (q_ca 12 h x0 (m_X12_reckons h x0 x1 v12 v14)).bind fun (r15, h16) =>
  some (r15, h16)
set_option maxRecDepth 20000 in
set_option maxHeartbeats 1000000 in
theorem v_X12_summedBy_58 {Γ : q_G} {sz : Nat} {r : Int64} {h' : q_H} (C : q_C Γ cX12_summedBy RX12) (Rm : q_Rm Γ 4 2 54 0 0)  (K : q_K Γ cX12_summedBy .lreturn sz h' 0 0 [.long r])  : ∀ (h : q_H) (x0 : Nat) (x1 : Int32) (x3 : Int32), m_X12_summedBy_58 h x0 x1 x3 = some (r, h') → q_V Γ sz 0 0 h [(0, .ref x0), (1, .int x1), (3, .int x3)] [] 58 := by
  intro h x0 x1 x3 hm
  unfold m_X12_summedBy_58 at hm
  refine q_aload_n C (k4 := 0) 0 rfl (by decide +kernel) ?_
  refine q_iload_n C (k4 := 1) 1 rfl (by decide +kernel) ?_
  refine q_aload_n C (k4 := 0) 0 rfl (by decide +kernel) ?_
  refine q_getn C fl_12_20 hm (by decide +kernel) (fun v11 hm => ?_)
  refine q_iload_n C (k4 := 3) 2 rfl (by decide +kernel) ?_
  refine q_ir C hm (by decide +kernel) (fun v12 hm => ?_)
  refine q_aload_n C (k4 := 0) 0 rfl (by decide +kernel) ?_
  refine q_getn C fl_12_20 hm (by decide +kernel) (fun v13 hm => ?_)
  refine q_iload_n C (k4 := 3) 2 rfl (by decide +kernel) ?_
  refine q_iconst C (n := 1) (v := 1) (by decide) (by decide +kernel) ?_
  refine q_iadd C (by decide +kernel) ?_
  refine q_ir C hm (by decide +kernel) (fun v14 hm => ?_)
  refine q_vlS C Rm (As := [.int x1, .int v12, .int v14]) (rest := []) Y_X12_reckons Yv_X12_reckons ml_X12_302 (by decide) (by decide) hm (fun r15 h16 e9 => c_X12_reckons _ _ _ _ _ _ _ _ _ _ e9) rfl rfl (Nat.le_of_ble_eq_true rfl) (by decide +kernel) (fun r15 h16 hm => ?_)
  exact q_rlS hm K (by decide +kernel)
def m_X12_summedBy_2  : Nat → q_H → Nat → Int32 → Int32 → Option (Int64 × q_H)
  | 0, _, _, _, _ => none
  | n + 1, h, x0, x1, x2 =>
    (q_gn h x0 12 6).bind fun v1 =>
    (q_ai h v1 1 x1).bind fun v2 =>
    if v2 ≤ x2 then
      some ((0 : Int64), h)
    else
      (q_gn h x0 12 5).bind fun v3 =>
      (q_ai h v3 1 (((((48 : Int32) * x1) + ((4 : Int32) * x2)) + (2 : Int32)))).bind fun v4 =>
      if v4 < 0 then
        m_X12_summedBy_58 h x0 x1 ((((48 : Int32) * x1) + ((4 : Int32) * x2)))
      else
        (q_gn h x0 12 5).bind fun v5 =>
        (q_ai h v5 1 (((((48 : Int32) * x1) + ((4 : Int32) * x2)) + (2 : Int32)))).bind fun v6 =>
        (q_gn h x0 12 5).bind fun v7 =>
        (q_ai h v7 1 (((((48 : Int32) * x1) + ((4 : Int32) * x2)) + (3 : Int32)))).bind fun v8 =>
        (q_ca 12 h x0 (m_X12_reckons h x0 x1 v6 v8)).bind fun (r9, h10) =>
        if (lg_cmp r9 ((1 : Int64))) = 0 then
          m_X12_summedBy_58 h10 x0 x1 ((((48 : Int32) * x1) + ((4 : Int32) * x2)))
        else
          m_X12_summedBy_2 n h10 x0 x1 ((x2 + (1 : Int32)))
set_option maxRecDepth 20000 in
set_option maxHeartbeats 1000000 in
theorem v_X12_summedBy_2 {Γ : q_G} {sz : Nat} {r : Int64} {h' : q_H} (C : q_C Γ cX12_summedBy RX12) (Rm : q_Rm Γ 4 2 54 0 0)  (K : q_K Γ cX12_summedBy .lreturn sz h' 0 0 [.long r])  : ∀ (n : Nat) (h : q_H) (x0 : Nat) (x1 : Int32) (x2 : Int32), m_X12_summedBy_2 n h x0 x1 x2 = some (r, h') → q_V Γ sz 0 0 h [(0, .ref x0), (1, .int x1), (2, .int x2)] [] 2 := by
  intro n
  induction n with
  | zero => intro h x0 x1 x2 hm; cases hm
  | succ n ih =>
    intro h x0 x1 x2 hm
    unfold m_X12_summedBy_2 at hm
    refine q_iload_n C (k4 := 2) 2 rfl (by decide +kernel) ?_
    refine q_aload_n C (k4 := 0) 0 rfl (by decide +kernel) ?_
    refine q_getn C fl_12_23 hm (by decide +kernel) (fun v1 hm => ?_)
    refine q_iload_n C (k4 := 1) 1 rfl (by decide +kernel) ?_
    refine q_ir C hm (by decide +kernel) (fun v2 hm => ?_)
    refine q_icmp_ge C (off := 75) 84 hm (by decide +kernel) (by decide) (fun _ hm => ?_) (fun _ hm => ?_)
    · refine q_lconst C (n := 0) (v := 0) (by decide) (by decide +kernel) ?_
      exact q_rlS hm K (by decide +kernel)
    · refine q_bipush C (n := 48) (v := 48) (by decide) (by decide +kernel) ?_
      refine q_iload_n C (k4 := 1) 1 rfl (by decide +kernel) ?_
      refine q_imul C (by decide +kernel) ?_
      refine q_iconst C (n := 4) (v := 4) (by decide) (by decide +kernel) ?_
      refine q_iload_n C (k4 := 2) 2 rfl (by decide +kernel) ?_
      refine q_imul C (by decide +kernel) ?_
      refine q_iadd C (by decide +kernel) ?_
      refine q_istore_n C Rm.1 (k4 := 3) (i := 3) rfl (lv' := [(3, .int ((((48 : Int32) * x1) + ((4 : Int32) * x2)))), (0, .ref x0), (1, .int x1), (2, .int x2)]) rfl (by decide) (by decide +kernel) ?_
      refine q_aload_n C (k4 := 0) 1 rfl (by decide +kernel) ?_
      refine q_getn C fl_12_20 hm (by decide +kernel) (fun v3 hm => ?_)
      refine q_iload_n C (k4 := 3) 0 rfl (by decide +kernel) ?_
      refine q_iconst C (n := 2) (v := 2) (by decide) (by decide +kernel) ?_
      refine q_iadd C (by decide +kernel) ?_
      refine q_ir C hm (by decide +kernel) (fun v4 hm => ?_)
      refine q_if_lt C (off := 29) 58 hm (by decide +kernel) (by decide) (fun _ hm => ?_) (fun _ hm => ?_)
      · refine q_loc [1, 2, 0] rfl ?_
        exact v_X12_summedBy_58 C Rm K _ _ _ _ hm
      · refine q_aload_n C (k4 := 0) 1 rfl (by decide +kernel) ?_
        refine q_iload_n C (k4 := 1) 2 rfl (by decide +kernel) ?_
        refine q_aload_n C (k4 := 0) 1 rfl (by decide +kernel) ?_
        refine q_getn C fl_12_20 hm (by decide +kernel) (fun v5 hm => ?_)
        refine q_iload_n C (k4 := 3) 0 rfl (by decide +kernel) ?_
        refine q_iconst C (n := 2) (v := 2) (by decide) (by decide +kernel) ?_
        refine q_iadd C (by decide +kernel) ?_
        refine q_ir C hm (by decide +kernel) (fun v6 hm => ?_)
        refine q_aload_n C (k4 := 0) 1 rfl (by decide +kernel) ?_
        refine q_getn C fl_12_20 hm (by decide +kernel) (fun v7 hm => ?_)
        refine q_iload_n C (k4 := 3) 0 rfl (by decide +kernel) ?_
        refine q_iconst C (n := 3) (v := 3) (by decide) (by decide +kernel) ?_
        refine q_iadd C (by decide +kernel) ?_
        refine q_ir C hm (by decide +kernel) (fun v8 hm => ?_)
        refine q_vlS C Rm (As := [.int x1, .int v6, .int v8]) (rest := []) Y_X12_reckons Yv_X12_reckons ml_X12_302 (by decide) (by decide) hm (fun r9 h10 e9 => c_X12_reckons _ _ _ _ _ _ _ _ _ _ e9) rfl rfl (Nat.le_of_ble_eq_true rfl) (by decide +kernel) (fun r9 h10 hm => ?_)
        refine q_lconst C (n := 1) (v := 1) (by decide) (by decide +kernel) ?_
        refine q_lcmp C (by decide +kernel) ?_
        refine q_if_ne C (off := 23) 78 hm (by decide +kernel) (by decide) (fun _ hm => ?_) (fun _ hm => ?_)
        · refine q_iinc C Rm.1 (i := 2) (n := 1) (v := (x2 + (1 : Int32))) 3 rfl (q_inc _ (by decide)) (lv' := [(2, .int ((x2 + (1 : Int32)))), (3, .int ((((48 : Int32) * x1) + ((4 : Int32) * x2)))), (0, .ref x0), (1, .int x1)]) rfl (by decide) (by decide +kernel) ?_
          refine q_goto C (off := -79) 2 (by decide +kernel) (by decide) ?_
          refine q_loc [2, 3, 0] rfl ?_
          exact ih _ _ _ _ hm
        · refine q_loc [1, 2, 0] rfl ?_
          exact v_X12_summedBy_58 C Rm K _ _ _ _ hm
def m_X12_summedBy (h : q_H) (a0 : Nat) (a1 : Int32) : Option (Int64 × q_H) :=
  m_X12_summedBy_2 q_fu h a0 a1 ((0 : Int32))
set_option maxRecDepth 20000 in
set_option maxHeartbeats 1000000 in
theorem c_X12_summedBy (l : Launch) (base : Nat) (D : va_G) (tc : Nat → ClassId) (sz : Nat) (h : q_H) (a0 : Nat) (a1 : Int32) {r : Int64} {h' : q_H} (hm : m_X12_summedBy h a0 a1 = some (r, h')) : q_M l yX12_summedBy cX12_summedBy 4 (some .long) 2 54 0 0 base D tc [.ref a0, .int a1] sz h (some (.long r)) sz h' := by
  refine q_startl (by decide) (Nat.le_of_ble_eq_true rfl) (fun Γ B K => ?_)
  obtain ⟨C, Rm, -⟩ := B
  have C : q_C Γ cX12_summedBy RX12 := C
  show q_V Γ sz 0 0 h [(0, .ref a0), (1, .int a1)] [] 0
  unfold m_X12_summedBy at hm
  refine q_iconst C (n := 0) (v := 0) (by decide) (by decide +kernel) ?_
  refine q_istore_n C Rm.1 (k4 := 2) (i := 2) rfl (lv' := [(2, .int ((0 : Int32))), (0, .ref a0), (1, .int a1)]) rfl (by decide) (by decide +kernel) ?_
  refine q_loc [1, 2, 0] rfl ?_
  exact v_X12_summedBy_2 C Rm K _ _ _ _ _ hm
def m_X12_sumOf (h : q_H) (a0 : Nat) (a1 : Int32) : Option (Int64 × q_H) :=
  (q_gn h a0 12 19).bind fun v1 =>
  (q_sl h v1 ((0 : Int32)) a1.toInt64).bind fun h2 =>
  (q_gn h2 a0 12 19).bind fun v3 =>
  (q_ca 12 h2 a0 (m_X12_sideOf h2 a0 a1)).bind fun r4 =>
  (q_sl h2 v3 ((1 : Int32)) r4.toInt64).bind fun h6 =>
  (q_gn h6 a0 12 19).bind fun v7 =>
  (q_gn h6 a0 12 20).bind fun v8 =>
  (q_ai h6 v8 1 (((52 : Int32) + a1))).bind fun v9 =>
  (q_sl h6 v7 ((2 : Int32)) v9.toInt64).bind fun h10 =>
  (q_gn h10 a0 12 19).bind fun v11 =>
  (q_ca 12 h10 a0 (m_X12_windOf h10 a0 a1)).bind fun r12 =>
  (q_sl h10 v11 ((3 : Int32)) r12.toInt64).bind fun h14 =>
  (q_gn h14 a0 12 19).bind fun v15 =>
  (q_gn h14 a0 12 20).bind fun v16 =>
  (q_ai h14 v16 1 (((60 : Int32) + a1))).bind fun v17 =>
  (q_sl h14 v15 ((4 : Int32)) v17.toInt64).bind fun h18 =>
  (q_gn h18 a0 12 19).bind fun v19 =>
  (q_ca 12 h18 a0 (m_X12_placeOf h18 a0 a1)).bind fun r20 =>
  (q_sl h18 v19 ((5 : Int32)) r20.toInt64).bind fun h22 =>
  (q_gn h22 a0 12 19).bind fun v23 =>
  (q_ca 12 h22 a0 (m_X12_upOnes h22 a0)).bind fun r24 =>
  (q_ca 12 h22 a0 (m_X12_sideOf h22 a0 a1)).bind fun r26 =>
  (q_ca 12 h22 a0 (m_X12_onesOn h22 a0 r26)).bind fun r28 =>
  (m_X12_bits (((r24 &&& r28) &&& (((1 : Int32) <<< (a1 &&& 31)) ^^^ (-1 : Int32))))).bind fun r30 =>
  (q_sl h22 v23 ((6 : Int32)) r30.toInt64).bind fun h32 =>
  (q_gn h32 a0 12 19).bind fun v33 =>
  (q_ca 12 h32 a0 (m_X12_towards h32 a0 a1)).bind fun r34 =>
  (q_sl h32 v33 ((7 : Int32)) r34.toInt64).bind fun h36 =>
  (q_gn h36 a0 12 19).bind fun v37 =>
  (q_gn h36 a0 12 20).bind fun v38 =>
  (q_ai h36 v38 1 ((1 : Int32))).bind fun v39 =>
  (q_sl h36 v37 ((8 : Int32)) v39.toInt64).bind fun h40 =>
  (q_gn h40 a0 12 19).bind fun v41 =>
  (q_ca 12 h40 a0 (m_X12_workOf h40 a0 a1)).bind fun r42 =>
  (q_sl h40 v41 ((9 : Int32)) r42.toInt64).bind fun h44 =>
  (q_gn h44 a0 12 19).bind fun v45 =>
  (q_gn h44 a0 12 20).bind fun v46 =>
  (q_ai h44 v46 1 ((10 : Int32))).bind fun v47 =>
  (q_sl h44 v45 ((10 : Int32)) v47.toInt64).bind fun h48 =>
  (q_gi h48 a0 12 21).bind fun v49 =>
  (q_ca 12 h48 a0 (m_X12_summedBy h48 a0 v49)).bind fun (r50, h51) =>
  some (r50, h51)
set_option maxRecDepth 20000 in
set_option maxHeartbeats 1000000 in
theorem c_X12_sumOf (l : Launch) (base : Nat) (D : va_G) (tc : Nat → ClassId) (sz : Nat) (h : q_H) (a0 : Nat) (a1 : Int32) {r : Int64} {h' : q_H} (hm : m_X12_sumOf h a0 a1 = some (r, h')) : q_M l yX12_sumOf cX12_sumOf 2 (some .long) 3 77 0 0 base D tc [.ref a0, .int a1] sz h (some (.long r)) sz h' := by
  refine q_startl (by decide) (Nat.le_of_ble_eq_true rfl) (fun Γ B K => ?_)
  obtain ⟨C, Rm, -⟩ := B
  have C : q_C Γ cX12_sumOf RX12 := C
  show q_V Γ sz 0 0 h [(0, .ref a0), (1, .int a1)] [] 0
  unfold m_X12_sumOf at hm
  refine q_aload_n C (k4 := 0) 0 rfl (by decide +kernel) ?_
  refine q_getn C fl_12_36 hm (by decide +kernel) (fun v1 hm => ?_)
  refine q_iconst C (n := 0) (v := 0) (by decide) (by decide +kernel) ?_
  refine q_iload_n C (k4 := 1) 1 rfl (by decide +kernel) ?_
  refine q_i2l C (by decide +kernel) ?_
  refine q_lw C hm (by decide +kernel) (fun h2 hm => ?_)
  refine q_aload_n C (k4 := 0) 0 rfl (by decide +kernel) ?_
  refine q_getn C fl_12_36 hm (by decide +kernel) (fun v3 hm => ?_)
  refine q_iconst C (n := 1) (v := 1) (by decide) (by decide +kernel) ?_
  refine q_aload_n C (k4 := 0) 0 rfl (by decide +kernel) ?_
  refine q_iload_n C (k4 := 1) 1 rfl (by decide +kernel) ?_
  refine q_viP C Rm (As := [.int a1]) (rest := [.int ((1 : Int32)), .ref v3]) Y_X12_sideOf Yv_X12_sideOf ml_X12_284 (by decide) (by decide) hm (fun r9 e9 => c_X12_sideOf _ _ _ _ _ _ _ _ e9) rfl rfl (Nat.le_of_ble_eq_true rfl) (by decide +kernel) (fun r4 hm z5 => ?_)
  refine q_i2l C (by decide +kernel) ?_
  refine q_lw C hm (by decide +kernel) (fun h6 hm => ?_)
  refine q_aload_n C (k4 := 0) 0 rfl (by decide +kernel) ?_
  refine q_getn C fl_12_36 hm (by decide +kernel) (fun v7 hm => ?_)
  refine q_iconst C (n := 2) (v := 2) (by decide) (by decide +kernel) ?_
  refine q_aload_n C (k4 := 0) 0 rfl (by decide +kernel) ?_
  refine q_getn C fl_12_39 hm (by decide +kernel) (fun v8 hm => ?_)
  refine q_bipush C (n := 52) (v := 52) (by decide) (by decide +kernel) ?_
  refine q_iload_n C (k4 := 1) 1 rfl (by decide +kernel) ?_
  refine q_iadd C (by decide +kernel) ?_
  refine q_ir C hm (by decide +kernel) (fun v9 hm => ?_)
  refine q_i2l C (by decide +kernel) ?_
  refine q_lw C hm (by decide +kernel) (fun h10 hm => ?_)
  refine q_aload_n C (k4 := 0) 0 rfl (by decide +kernel) ?_
  refine q_getn C fl_12_36 hm (by decide +kernel) (fun v11 hm => ?_)
  refine q_iconst C (n := 3) (v := 3) (by decide) (by decide +kernel) ?_
  refine q_aload_n C (k4 := 0) 0 rfl (by decide +kernel) ?_
  refine q_iload_n C (k4 := 1) 1 rfl (by decide +kernel) ?_
  refine q_viP C Rm (As := [.int a1]) (rest := [.int ((3 : Int32)), .ref v11]) Y_X12_windOf Yv_X12_windOf ml_X12_293 (by decide) (by decide) hm (fun r9 e9 => c_X12_windOf _ _ _ _ _ _ _ _ e9) rfl rfl (Nat.le_of_ble_eq_true rfl) (by decide +kernel) (fun r12 hm z13 => ?_)
  refine q_i2l C (by decide +kernel) ?_
  refine q_lw C hm (by decide +kernel) (fun h14 hm => ?_)
  refine q_aload_n C (k4 := 0) 0 rfl (by decide +kernel) ?_
  refine q_getn C fl_12_36 hm (by decide +kernel) (fun v15 hm => ?_)
  refine q_iconst C (n := 4) (v := 4) (by decide) (by decide +kernel) ?_
  refine q_aload_n C (k4 := 0) 0 rfl (by decide +kernel) ?_
  refine q_getn C fl_12_39 hm (by decide +kernel) (fun v16 hm => ?_)
  refine q_bipush C (n := 60) (v := 60) (by decide) (by decide +kernel) ?_
  refine q_iload_n C (k4 := 1) 1 rfl (by decide +kernel) ?_
  refine q_iadd C (by decide +kernel) ?_
  refine q_ir C hm (by decide +kernel) (fun v17 hm => ?_)
  refine q_i2l C (by decide +kernel) ?_
  refine q_lw C hm (by decide +kernel) (fun h18 hm => ?_)
  refine q_aload_n C (k4 := 0) 0 rfl (by decide +kernel) ?_
  refine q_getn C fl_12_36 hm (by decide +kernel) (fun v19 hm => ?_)
  refine q_iconst C (n := 5) (v := 5) (by decide) (by decide +kernel) ?_
  refine q_aload_n C (k4 := 0) 0 rfl (by decide +kernel) ?_
  refine q_iload_n C (k4 := 1) 1 rfl (by decide +kernel) ?_
  refine q_viP C Rm (As := [.int a1]) (rest := [.int ((5 : Int32)), .ref v19]) Y_X12_placeOf Yv_X12_placeOf ml_X12_296 (by decide) (by decide) hm (fun r9 e9 => c_X12_placeOf _ _ _ _ _ _ _ _ e9) rfl rfl (Nat.le_of_ble_eq_true rfl) (by decide +kernel) (fun r20 hm z21 => ?_)
  refine q_i2l C (by decide +kernel) ?_
  refine q_lw C hm (by decide +kernel) (fun h22 hm => ?_)
  refine q_aload_n C (k4 := 0) 0 rfl (by decide +kernel) ?_
  refine q_getn C fl_12_36 hm (by decide +kernel) (fun v23 hm => ?_)
  refine q_bipush C (n := 6) (v := 6) (by decide) (by decide +kernel) ?_
  refine q_aload_n C (k4 := 0) 0 rfl (by decide +kernel) ?_
  refine q_viP C Rm (As := []) (rest := [.int ((6 : Int32)), .ref v23]) Y_X12_upOnes Yv_X12_upOnes ml_X12_306 (by decide) (by decide) hm (fun r9 e9 => c_X12_upOnes _ _ _ _ _ _ _ e9) rfl rfl (Nat.le_of_ble_eq_true rfl) (by decide +kernel) (fun r24 hm z25 => ?_)
  refine q_aload_n C (k4 := 0) 0 rfl (by decide +kernel) ?_
  refine q_aload_n C (k4 := 0) 0 rfl (by decide +kernel) ?_
  refine q_iload_n C (k4 := 1) 1 rfl (by decide +kernel) ?_
  refine q_viP C Rm (As := [.int a1]) (rest := [.ref a0, .int r24, .int ((6 : Int32)), .ref v23]) Y_X12_sideOf Yv_X12_sideOf ml_X12_284 (by decide) (by decide) hm (fun r9 e9 => c_X12_sideOf _ _ _ _ _ _ _ _ e9) rfl rfl (Nat.le_of_ble_eq_true rfl) (by decide +kernel) (fun r26 hm z27 => ?_)
  refine q_viP C Rm (As := [.int r26]) (rest := [.int r24, .int ((6 : Int32)), .ref v23]) Y_X12_onesOn Yv_X12_onesOn ml_X12_309 (by decide) (by decide) hm (fun r9 e9 => c_X12_onesOn _ _ _ _ _ _ _ _ e9) rfl rfl (Nat.le_of_ble_eq_true rfl) (by decide +kernel) (fun r28 hm z29 => ?_)
  refine q_iand C (by decide +kernel) ?_
  refine q_iconst C (n := 1) (v := 1) (by decide) (by decide +kernel) ?_
  refine q_iload_n C (k4 := 1) 1 rfl (by decide +kernel) ?_
  refine q_ishl C (by decide +kernel) ?_
  refine q_iconst C (n := (-1)) (v := (-1)) (by decide) (by decide +kernel) ?_
  refine q_ixor C (by decide +kernel) ?_
  refine q_iand C (by decide +kernel) ?_
  refine q_siP C Rm (As := [.int (((r24 &&& r28) &&& (((1 : Int32) <<< (a1 &&& 31)) ^^^ (-1 : Int32))))]) (rest := [.int ((6 : Int32)), .ref v23]) Y_X12_bits Ys_X12_bits ml_X12_312 (by decide) (by decide) hm (fun r9 e9 => c_X12_bits _ _ _ _ _ _ _ e9) rfl rfl (Nat.le_of_ble_eq_true rfl) (by decide +kernel) (fun r30 hm z31 => ?_)
  refine q_i2l C (by decide +kernel) ?_
  refine q_lw C hm (by decide +kernel) (fun h32 hm => ?_)
  refine q_aload_n C (k4 := 0) 0 rfl (by decide +kernel) ?_
  refine q_getn C fl_12_36 hm (by decide +kernel) (fun v33 hm => ?_)
  refine q_bipush C (n := 7) (v := 7) (by decide) (by decide +kernel) ?_
  refine q_aload_n C (k4 := 0) 0 rfl (by decide +kernel) ?_
  refine q_iload_n C (k4 := 1) 1 rfl (by decide +kernel) ?_
  refine q_viP C Rm (As := [.int a1]) (rest := [.int ((7 : Int32)), .ref v33]) Y_X12_towards Yv_X12_towards ml_X12_315 (by decide) (by decide) hm (fun r9 e9 => c_X12_towards _ _ _ _ _ _ _ _ e9) rfl rfl (Nat.le_of_ble_eq_true rfl) (by decide +kernel) (fun r34 hm z35 => ?_)
  refine q_i2l C (by decide +kernel) ?_
  refine q_lw C hm (by decide +kernel) (fun h36 hm => ?_)
  refine q_aload_n C (k4 := 0) 0 rfl (by decide +kernel) ?_
  refine q_getn C fl_12_36 hm (by decide +kernel) (fun v37 hm => ?_)
  refine q_bipush C (n := 8) (v := 8) (by decide) (by decide +kernel) ?_
  refine q_aload_n C (k4 := 0) 0 rfl (by decide +kernel) ?_
  refine q_getn C fl_12_39 hm (by decide +kernel) (fun v38 hm => ?_)
  refine q_iconst C (n := 1) (v := 1) (by decide) (by decide +kernel) ?_
  refine q_ir C hm (by decide +kernel) (fun v39 hm => ?_)
  refine q_i2l C (by decide +kernel) ?_
  refine q_lw C hm (by decide +kernel) (fun h40 hm => ?_)
  refine q_aload_n C (k4 := 0) 0 rfl (by decide +kernel) ?_
  refine q_getn C fl_12_36 hm (by decide +kernel) (fun v41 hm => ?_)
  refine q_bipush C (n := 9) (v := 9) (by decide) (by decide +kernel) ?_
  refine q_aload_n C (k4 := 0) 0 rfl (by decide +kernel) ?_
  refine q_iload_n C (k4 := 1) 1 rfl (by decide +kernel) ?_
  refine q_viP C Rm (As := [.int a1]) (rest := [.int ((9 : Int32)), .ref v41]) Y_X12_workOf Yv_X12_workOf ml_X12_287 (by decide) (by decide) hm (fun r9 e9 => c_X12_workOf _ _ _ _ _ _ _ _ e9) rfl rfl (Nat.le_of_ble_eq_true rfl) (by decide +kernel) (fun r42 hm z43 => ?_)
  refine q_i2l C (by decide +kernel) ?_
  refine q_lw C hm (by decide +kernel) (fun h44 hm => ?_)
  refine q_aload_n C (k4 := 0) 0 rfl (by decide +kernel) ?_
  refine q_getn C fl_12_36 hm (by decide +kernel) (fun v45 hm => ?_)
  refine q_bipush C (n := 10) (v := 10) (by decide) (by decide +kernel) ?_
  refine q_aload_n C (k4 := 0) 0 rfl (by decide +kernel) ?_
  refine q_getn C fl_12_39 hm (by decide +kernel) (fun v46 hm => ?_)
  refine q_bipush C (n := 10) (v := 10) (by decide) (by decide +kernel) ?_
  refine q_ir C hm (by decide +kernel) (fun v47 hm => ?_)
  refine q_i2l C (by decide +kernel) ?_
  refine q_lw C hm (by decide +kernel) (fun h48 hm => ?_)
  refine q_aload_n C (k4 := 0) 0 rfl (by decide +kernel) ?_
  refine q_aload_n C (k4 := 0) 0 rfl (by decide +kernel) ?_
  refine q_geti C fl_12_42 hm (by decide +kernel) (fun v49 hm => ?_)
  refine q_vlS C Rm (As := [.int v49]) (rest := []) Y_X12_summedBy Yv_X12_summedBy ml_X12_318 (by decide) (by decide) hm (fun r50 h51 e9 => c_X12_summedBy _ _ _ _ _ _ _ _ e9) rfl rfl (Nat.le_of_ble_eq_true rfl) (by decide +kernel) (fun r50 h51 hm => ?_)
  exact q_rlS hm K (by decide +kernel)
def m_X12_effortOf_77  (h : q_H) (x0 : Nat) (x1 : Int32) (x2 : Int32) : Option (Int32 × q_H) :=
  (q_ca 12 h x0 (m_X12_windOf h x0 x1)).bind fun r12 =>
  if r12 ≤ x2 then
    (q_ca 12 h x0 (m_X12_windOf h x0 x1)).bind fun r14 =>
    some (r14, h)
  else
    some (x2, h)
set_option maxRecDepth 20000 in
set_option maxHeartbeats 1000000 in
theorem v_X12_effortOf_77 {Γ : q_G} {sz : Nat} {r : Int32} {h' : q_H} (C : q_C Γ cX12_effortOf RX12) (Rm : q_Rm Γ 5 4 98 0 0)  (K : narrow .int (.int r) = .int r → q_K Γ cX12_effortOf .ireturn sz h' 0 0 [.int r])  : ∀ (h : q_H) (x0 : Nat) (x1 : Int32) (x2 : Int32), m_X12_effortOf_77 h x0 x1 x2 = some (r, h') → q_V Γ sz 0 0 h [(0, .ref x0), (1, .int x1), (2, .int x2)] [] 77 := by
  intro h x0 x1 x2 hm
  unfold m_X12_effortOf_77 at hm
  refine q_iload_n C (k4 := 2) 2 rfl (by decide +kernel) ?_
  refine q_aload_n C (k4 := 0) 0 rfl (by decide +kernel) ?_
  refine q_iload_n C (k4 := 1) 1 rfl (by decide +kernel) ?_
  refine q_viP C Rm (As := [.int x1]) (rest := [.int x2]) Y_X12_windOf Yv_X12_windOf ml_X12_293 (by decide) (by decide) hm (fun r9 e9 => c_X12_windOf _ _ _ _ _ _ _ _ e9) rfl rfl (Nat.le_of_ble_eq_true rfl) (by decide +kernel) (fun r12 hm z13 => ?_)
  refine q_icmp_ge C (off := 7) 90 hm (by decide +kernel) (by decide) (fun _ hm => ?_) (fun _ hm => ?_)
  · refine q_aload_n C (k4 := 0) 0 rfl (by decide +kernel) ?_
    refine q_iload_n C (k4 := 1) 1 rfl (by decide +kernel) ?_
    refine q_viP C Rm (As := [.int x1]) (rest := []) Y_X12_windOf Yv_X12_windOf ml_X12_293 (by decide) (by decide) hm (fun r9 e9 => c_X12_windOf _ _ _ _ _ _ _ _ e9) rfl rfl (Nat.le_of_ble_eq_true rfl) (by decide +kernel) (fun r14 hm z15 => ?_)
    exact q_riS hm K rfl (by decide +kernel)
  · refine q_iload_n C (k4 := 2) 2 rfl (by decide +kernel) ?_
    refine q_goto C (off := 8) 95 (by decide +kernel) (by decide) ?_
    exact q_riS hm K rfl (by decide +kernel)
def m_X12_effortOf_76  (h : q_H) (x0 : Nat) (x1 : Int32) (s0 : Int32) : Option (Int32 × q_H) :=
  m_X12_effortOf_77 h x0 x1 s0
set_option maxRecDepth 20000 in
set_option maxHeartbeats 1000000 in
theorem v_X12_effortOf_76 {Γ : q_G} {sz : Nat} {r : Int32} {h' : q_H} (C : q_C Γ cX12_effortOf RX12) (Rm : q_Rm Γ 5 4 98 0 0)  (K : narrow .int (.int r) = .int r → q_K Γ cX12_effortOf .ireturn sz h' 0 0 [.int r])  : ∀ (h : q_H) (x0 : Nat) (x1 : Int32) (s0 : Int32), m_X12_effortOf_76 h x0 x1 s0 = some (r, h') → q_V Γ sz 0 0 h [(0, .ref x0), (1, .int x1)] [.int s0] 76 := by
  intro h x0 x1 s0 hm
  unfold m_X12_effortOf_76 at hm
  refine q_istore_n C Rm.1 (k4 := 2) (i := 2) rfl (lv' := [(2, .int s0), (0, .ref x0), (1, .int x1)]) rfl (by decide) (by decide +kernel) ?_
  refine q_loc [1, 2, 0] rfl ?_
  exact v_X12_effortOf_77 C Rm K _ _ _ _ hm
def m_X12_effortOf_29  (h : q_H) (x0 : Nat) (x1 : Int32) (s0 : Int32) : Option (Int32 × q_H) :=
  (q_gn h x0 12 23).bind fun v7 =>
  (q_ai h v7 1 x1).bind fun v8 =>
  if 0 ≤ v8 then
    m_X12_effortOf_77 h x0 x1 s0
  else
    (q_gi h x0 12 21).bind fun v9 =>
    if v9 < 0 then
      m_X12_effortOf_77 h x0 x1 s0
    else
      (q_ca 12 h x0 (m_X12_sumOf h x0 x1)).bind fun (r10, h11) =>
      if 0 ≤ (lg_cmp r10 ((0 : Int64))) then
        if (lg_cmp r10 ((3 : Int64))) ≤ 0 then
          m_X12_effortOf_76 h11 x0 x1 r10.toInt32
        else
          m_X12_effortOf_76 h11 x0 x1 ((3 : Int32))
      else
        m_X12_effortOf_76 h11 x0 x1 ((0 : Int32))
set_option maxRecDepth 20000 in
set_option maxHeartbeats 1000000 in
theorem v_X12_effortOf_29 {Γ : q_G} {sz : Nat} {r : Int32} {h' : q_H} (C : q_C Γ cX12_effortOf RX12) (Rm : q_Rm Γ 5 4 98 0 0)  (K : narrow .int (.int r) = .int r → q_K Γ cX12_effortOf .ireturn sz h' 0 0 [.int r])  : ∀ (h : q_H) (x0 : Nat) (x1 : Int32) (s0 : Int32), m_X12_effortOf_29 h x0 x1 s0 = some (r, h') → q_V Γ sz 0 0 h [(0, .ref x0), (1, .int x1)] [.int s0] 29 := by
  intro h x0 x1 s0 hm
  unfold m_X12_effortOf_29 at hm
  refine q_istore_n C Rm.1 (k4 := 2) (i := 2) rfl (lv' := [(2, .int s0), (0, .ref x0), (1, .int x1)]) rfl (by decide) (by decide +kernel) ?_
  refine q_aload_n C (k4 := 0) 1 rfl (by decide +kernel) ?_
  refine q_getn C fl_12_46 hm (by decide +kernel) (fun v7 hm => ?_)
  refine q_iload_n C (k4 := 1) 2 rfl (by decide +kernel) ?_
  refine q_ir C hm (by decide +kernel) (fun v8 hm => ?_)
  refine q_if_ge C (off := 41) 77 hm (by decide +kernel) (by decide) (fun _ hm => ?_) (fun _ hm => ?_)
  · refine q_loc [1, 2, 0] rfl ?_
    exact v_X12_effortOf_77 C Rm K _ _ _ _ hm
  · refine q_aload_n C (k4 := 0) 1 rfl (by decide +kernel) ?_
    refine q_geti C fl_12_42 hm (by decide +kernel) (fun v9 hm => ?_)
    refine q_if_lt C (off := 34) 77 hm (by decide +kernel) (by decide) (fun _ hm => ?_) (fun _ hm => ?_)
    · refine q_loc [1, 2, 0] rfl ?_
      exact v_X12_effortOf_77 C Rm K _ _ _ _ hm
    · refine q_aload_n C (k4 := 0) 1 rfl (by decide +kernel) ?_
      refine q_iload_n C (k4 := 1) 2 rfl (by decide +kernel) ?_
      refine q_vlS C Rm (As := [.int x1]) (rest := []) Y_X12_sumOf Yv_X12_sumOf ml_X12_322 (by decide) (by decide) hm (fun r10 h11 e9 => c_X12_sumOf _ _ _ _ _ _ _ _ e9) rfl rfl (Nat.le_of_ble_eq_true rfl) (by decide +kernel) (fun r10 h11 hm => ?_)
      refine q_lstore_n C Rm.1 (k4 := 3) (i := 3) rfl (lv' := [(3, .long r10), (2, .int s0), (0, .ref x0), (1, .int x1)]) rfl (by decide) (by decide +kernel) ?_
      refine q_lload_n C (k4 := 3) 0 rfl (by decide +kernel) ?_
      refine q_lconst C (n := 0) (v := 0) (by decide) (by decide +kernel) ?_
      refine q_lcmp C (by decide +kernel) ?_
      refine q_if_ge C (off := 7) 62 hm (by decide +kernel) (by decide) (fun _ hm => ?_) (fun _ hm => ?_)
      · refine q_lload_n C (k4 := 3) 0 rfl (by decide +kernel) ?_
        refine q_ldc2 C (idx := 325) (v := 3) (q_m7 38 rfl rfl) (by decide +kernel) ?_
        refine q_lcmp C (by decide +kernel) ?_
        refine q_if_le C (off := 7) 74 hm (by decide +kernel) (by decide) (fun _ hm => ?_) (fun _ hm => ?_)
        · refine q_lload_n C (k4 := 3) 0 rfl (by decide +kernel) ?_
          refine q_l2i C (by decide +kernel) ?_
          refine q_loc [2, 3] rfl ?_
          exact v_X12_effortOf_76 C Rm K _ _ _ _ hm
        · refine q_iconst C (n := 3) (v := 3) (by decide) (by decide +kernel) ?_
          refine q_goto C (off := 5) 76 (by decide +kernel) (by decide) ?_
          refine q_loc [2, 3] rfl ?_
          exact v_X12_effortOf_76 C Rm K _ _ _ _ hm
      · refine q_iconst C (n := 0) (v := 0) (by decide) (by decide +kernel) ?_
        refine q_goto C (off := 17) 76 (by decide +kernel) (by decide) ?_
        refine q_loc [2, 3] rfl ?_
        exact v_X12_effortOf_76 C Rm K _ _ _ _ hm
def m_X12_effortOf (h : q_H) (a0 : Nat) (a1 : Int32) : Option (Int32 × q_H) :=
  (q_ca 12 h a0 (m_X12_isUp h a0 a1)).bind fun r1 =>
  if r1 = 0 then
    some ((0 : Int32), h)
  else
    (q_gn h a0 12 23).bind fun v3 =>
    (q_ai h v3 1 a1).bind fun v4 =>
    if v4 < 0 then
      m_X12_effortOf_29 h a0 a1 ((2 : Int32))
    else
      (q_gn h a0 12 23).bind fun v5 =>
      (q_ai h v5 1 a1).bind fun v6 =>
      m_X12_effortOf_29 h a0 a1 v6
set_option maxRecDepth 20000 in
set_option maxHeartbeats 1000000 in
theorem c_X12_effortOf (l : Launch) (base : Nat) (D : va_G) (tc : Nat → ClassId) (sz : Nat) (h : q_H) (a0 : Nat) (a1 : Int32) {r : Int32} {h' : q_H} (hm : m_X12_effortOf h a0 a1 = some (r, h')) : q_M l yX12_effortOf cX12_effortOf 5 (some .int) 4 98 0 0 base D tc [.ref a0, .int a1] sz h (some (.int r)) sz h' := by
  refine q_starti (by decide) (Nat.le_of_ble_eq_true rfl) (fun Γ B K => ?_)
  obtain ⟨C, Rm, -⟩ := B
  have C : q_C Γ cX12_effortOf RX12 := C
  show q_V Γ sz 0 0 h [(0, .ref a0), (1, .int a1)] [] 0
  unfold m_X12_effortOf at hm
  refine q_aload_n C (k4 := 0) 0 rfl (by decide +kernel) ?_
  refine q_iload_n C (k4 := 1) 1 rfl (by decide +kernel) ?_
  refine q_viP C Rm (As := [.int a1]) (rest := []) Y_X12_isUp Yv_X12_isUp ml_X12_281 (by decide) (by decide) hm (fun r9 e9 => c_X12_isUp _ _ _ _ _ _ _ _ e9) rfl rfl (Nat.le_of_ble_eq_true rfl) (by decide +kernel) (fun r1 hm z2 => ?_)
  refine q_if_ne C (off := 5) 10 hm (by decide +kernel) (by decide) (fun _ hm => ?_) (fun _ hm => ?_)
  · refine q_aload_n C (k4 := 0) 0 rfl (by decide +kernel) ?_
    refine q_getn C fl_12_46 hm (by decide +kernel) (fun v3 hm => ?_)
    refine q_iload_n C (k4 := 1) 1 rfl (by decide +kernel) ?_
    refine q_ir C hm (by decide +kernel) (fun v4 hm => ?_)
    refine q_if_lt C (off := 12) 28 hm (by decide +kernel) (by decide) (fun _ hm => ?_) (fun _ hm => ?_)
    · refine q_iconst C (n := 2) (v := 2) (by decide) (by decide +kernel) ?_
      exact v_X12_effortOf_29 C Rm K _ _ _ _ hm
    · refine q_aload_n C (k4 := 0) 0 rfl (by decide +kernel) ?_
      refine q_getn C fl_12_46 hm (by decide +kernel) (fun v5 hm => ?_)
      refine q_iload_n C (k4 := 1) 1 rfl (by decide +kernel) ?_
      refine q_ir C hm (by decide +kernel) (fun v6 hm => ?_)
      refine q_goto C (off := 4) 29 (by decide +kernel) (by decide) ?_
      exact v_X12_effortOf_29 C Rm K _ _ _ _ hm
  · refine q_iconst C (n := 0) (v := 0) (by decide) (by decide +kernel) ?_
    exact q_riS hm K rfl (by decide +kernel)
def m_X12_tires (h : q_H) (a0 : Nat) (a1 : Int32) (a2 : Int32) : Option q_H :=
  (q_gn h a0 12 20).bind fun v1 =>
  (q_ca 12 h a0 (m_X12_workOf h a0 a1)).bind fun r2 =>
  (m_X12_within ((r2 + a2)) ((0 : Int32)) ((999 : Int32))).bind fun r4 =>
  (q_si h v1 1 ((((12 : Int32) + ((5 : Int32) * a1)) + (4 : Int32))) r4).bind fun h6 =>
  if a2 ≤ 0 then
    (q_ca 12 h6 a0 (m_X12_windOf h6 a0 a1)).bind fun r7 =>
    (q_gn h6 a0 12 20).bind fun v9 =>
    (q_ai h6 v9 1 (((76 : Int32) + a1))).bind fun v10 =>
    if v10 ≤ r7 then
      some h6
    else
      (q_gn h6 a0 12 20).bind fun v11 =>
      (q_ca 12 h6 a0 (m_X12_windOf h6 a0 a1)).bind fun r12 =>
      (q_gn h6 a0 12 20).bind fun v14 =>
      (q_ai h6 v14 1 (((76 : Int32) + a1))).bind fun v15 =>
      (m_X12_within ((r12 + (2 : Int32))) ((0 : Int32)) v15).bind fun r16 =>
      (q_si h6 v11 1 ((((12 : Int32) + ((5 : Int32) * a1)) + (2 : Int32))) r16).bind fun h18 =>
      some h18
  else
    (q_gn h6 a0 12 20).bind fun v19 =>
    (q_ai h6 v19 1 ((((12 : Int32) + ((5 : Int32) * a1)) + (2 : Int32)))).bind fun v20 =>
    (q_si h6 v19 1 ((((12 : Int32) + ((5 : Int32) * a1)) + (2 : Int32))) ((v20 - a2))).bind fun h21 =>
    some h21
set_option maxRecDepth 20000 in
set_option maxHeartbeats 1000000 in
theorem c_X12_tires (l : Launch) (base : Nat) (D : va_G) (tc : Nat → ClassId) (sz : Nat) (h : q_H) (a0 : Nat) (a1 : Int32) (a2 : Int32) {h' : q_H} (hm : m_X12_tires h a0 a1 a2 = some h') : q_M l yX12_tires cX12_tires 4 none 1 22 0 0 base D tc [.ref a0, .int a1, .int a2] sz h none sz h' := by
  refine q_startv (by decide) (Nat.le_of_ble_eq_true rfl) (fun Γ B K => ?_)
  obtain ⟨C, Rm, -⟩ := B
  have C : q_C Γ cX12_tires RX12 := C
  show q_V Γ sz 0 0 h [(0, .ref a0), (1, .int a1), (2, .int a2)] [] 0
  unfold m_X12_tires at hm
  refine q_bipush C (n := 12) (v := 12) (by decide) (by decide +kernel) ?_
  refine q_iconst C (n := 5) (v := 5) (by decide) (by decide +kernel) ?_
  refine q_iload_n C (k4 := 1) 1 rfl (by decide +kernel) ?_
  refine q_imul C (by decide +kernel) ?_
  refine q_iadd C (by decide +kernel) ?_
  refine q_istore_n C Rm.1 (k4 := 3) (i := 3) rfl (lv' := [(3, .int (((12 : Int32) + ((5 : Int32) * a1)))), (0, .ref a0), (1, .int a1), (2, .int a2)]) rfl (by decide) (by decide +kernel) ?_
  refine q_aload_n C (k4 := 0) 1 rfl (by decide +kernel) ?_
  refine q_getn C fl_12_39 hm (by decide +kernel) (fun v1 hm => ?_)
  refine q_iload_n C (k4 := 3) 0 rfl (by decide +kernel) ?_
  refine q_iconst C (n := 4) (v := 4) (by decide) (by decide +kernel) ?_
  refine q_iadd C (by decide +kernel) ?_
  refine q_aload_n C (k4 := 0) 1 rfl (by decide +kernel) ?_
  refine q_iload_n C (k4 := 1) 2 rfl (by decide +kernel) ?_
  refine q_viP C Rm (As := [.int a1]) (rest := [.int ((((12 : Int32) + ((5 : Int32) * a1)) + (4 : Int32))), .ref v1]) Y_X12_workOf Yv_X12_workOf ml_X12_287 (by decide) (by decide) hm (fun r9 e9 => c_X12_workOf _ _ _ _ _ _ _ _ e9) rfl rfl (Nat.le_of_ble_eq_true rfl) (by decide +kernel) (fun r2 hm z3 => ?_)
  refine q_iload_n C (k4 := 2) 3 rfl (by decide +kernel) ?_
  refine q_iadd C (by decide +kernel) ?_
  refine q_iconst C (n := 0) (v := 0) (by decide) (by decide +kernel) ?_
  refine q_sipush C (n := 999) (v := 999) (by decide) (by decide +kernel) ?_
  refine q_siP C Rm (As := [.int ((r2 + a2)), .int ((0 : Int32)), .int ((999 : Int32))]) (rest := [.int ((((12 : Int32) + ((5 : Int32) * a1)) + (4 : Int32))), .ref v1]) Y_X12_within Ys_X12_within ml_X12_327 (by decide) (by decide) hm (fun r9 e9 => c_X12_within _ _ _ _ _ _ _ _ _ e9) rfl rfl (Nat.le_of_ble_eq_true rfl) (by decide +kernel) (fun r4 hm z5 => ?_)
  refine q_iw C hm (by decide +kernel) (fun h6 hm => ?_)
  refine q_iload_n C (k4 := 2) 3 rfl (by decide +kernel) ?_
  refine q_if_le C (off := 18) 48 hm (by decide +kernel) (by decide) (fun _ hm => ?_) (fun _ hm => ?_)
  · refine q_aload_n C (k4 := 0) 1 rfl (by decide +kernel) ?_
    refine q_iload_n C (k4 := 1) 2 rfl (by decide +kernel) ?_
    refine q_viP C Rm (As := [.int a1]) (rest := []) Y_X12_windOf Yv_X12_windOf ml_X12_293 (by decide) (by decide) hm (fun r9 e9 => c_X12_windOf _ _ _ _ _ _ _ _ e9) rfl rfl (Nat.le_of_ble_eq_true rfl) (by decide +kernel) (fun r7 hm z8 => ?_)
    refine q_aload_n C (k4 := 0) 1 rfl (by decide +kernel) ?_
    refine q_getn C fl_12_39 hm (by decide +kernel) (fun v9 hm => ?_)
    refine q_bipush C (n := 76) (v := 76) (by decide) (by decide +kernel) ?_
    refine q_iload_n C (k4 := 1) 2 rfl (by decide +kernel) ?_
    refine q_iadd C (by decide +kernel) ?_
    refine q_ir C hm (by decide +kernel) (fun v10 hm => ?_)
    refine q_icmp_ge C (off := 31) 93 hm (by decide +kernel) (by decide) (fun _ hm => ?_) (fun _ hm => ?_)
    · exact q_rvS hm K (by decide +kernel)
    · refine q_aload_n C (k4 := 0) 1 rfl (by decide +kernel) ?_
      refine q_getn C fl_12_39 hm (by decide +kernel) (fun v11 hm => ?_)
      refine q_iload_n C (k4 := 3) 0 rfl (by decide +kernel) ?_
      refine q_iconst C (n := 2) (v := 2) (by decide) (by decide +kernel) ?_
      refine q_iadd C (by decide +kernel) ?_
      refine q_aload_n C (k4 := 0) 1 rfl (by decide +kernel) ?_
      refine q_iload_n C (k4 := 1) 2 rfl (by decide +kernel) ?_
      refine q_viP C Rm (As := [.int a1]) (rest := [.int ((((12 : Int32) + ((5 : Int32) * a1)) + (2 : Int32))), .ref v11]) Y_X12_windOf Yv_X12_windOf ml_X12_293 (by decide) (by decide) hm (fun r9 e9 => c_X12_windOf _ _ _ _ _ _ _ _ e9) rfl rfl (Nat.le_of_ble_eq_true rfl) (by decide +kernel) (fun r12 hm z13 => ?_)
      refine q_iconst C (n := 2) (v := 2) (by decide) (by decide +kernel) ?_
      refine q_iadd C (by decide +kernel) ?_
      refine q_iconst C (n := 0) (v := 0) (by decide) (by decide +kernel) ?_
      refine q_aload_n C (k4 := 0) 1 rfl (by decide +kernel) ?_
      refine q_getn C fl_12_39 hm (by decide +kernel) (fun v14 hm => ?_)
      refine q_bipush C (n := 76) (v := 76) (by decide) (by decide +kernel) ?_
      refine q_iload_n C (k4 := 1) 2 rfl (by decide +kernel) ?_
      refine q_iadd C (by decide +kernel) ?_
      refine q_ir C hm (by decide +kernel) (fun v15 hm => ?_)
      refine q_siP C Rm (As := [.int ((r12 + (2 : Int32))), .int ((0 : Int32)), .int v15]) (rest := [.int ((((12 : Int32) + ((5 : Int32) * a1)) + (2 : Int32))), .ref v11]) Y_X12_within Ys_X12_within ml_X12_327 (by decide) (by decide) hm (fun r9 e9 => c_X12_within _ _ _ _ _ _ _ _ _ e9) rfl rfl (Nat.le_of_ble_eq_true rfl) (by decide +kernel) (fun r16 hm z17 => ?_)
      refine q_iw C hm (by decide +kernel) (fun h18 hm => ?_)
      exact q_rvS hm K (by decide +kernel)
  · refine q_aload_n C (k4 := 0) 1 rfl (by decide +kernel) ?_
    refine q_getn C fl_12_39 hm (by decide +kernel) (fun v19 hm => ?_)
    refine q_iload_n C (k4 := 3) 0 rfl (by decide +kernel) ?_
    refine q_iconst C (n := 2) (v := 2) (by decide) (by decide +kernel) ?_
    refine q_iadd C (by decide +kernel) ?_
    refine q_dup2 C rfl rfl (by decide +kernel) ?_
    refine q_ir C hm (by decide +kernel) (fun v20 hm => ?_)
    refine q_iload_n C (k4 := 2) 3 rfl (by decide +kernel) ?_
    refine q_isub C (by decide +kernel) ?_
    refine q_iw C hm (by decide +kernel) (fun h21 hm => ?_)
    refine q_goto C (off := 48) 93 (by decide +kernel) (by decide) ?_
    exact q_rvS hm K (by decide +kernel)
def m_X12_atPlace_32 (k2 : q_H → Nat → Int32 → Int32 → Int32 → Option Int32) (h0 : q_H) (x0 : Nat) (x1 : Int32) (x2 : Int32) (x3 : Int32) : Option Int32 :=
  k2 h0 x0 x1 x2 ((x3 + (1 : Int32)))
set_option maxRecDepth 20000 in
set_option maxHeartbeats 1000000 in
theorem v_X12_atPlace_32 {Γ : q_G} {sz : Nat} {h0 : q_H} {r : Int32} (C : q_C Γ cX12_atPlace RX12) (Rm : q_Rm Γ 4 1 21 0 0) {k2 : q_H → Nat → Int32 → Int32 → Int32 → Option Int32} (K : narrow .int (.int r) = .int r → q_K Γ cX12_atPlace .ireturn sz h0 0 0 [.int r]) (hk2 : ∀ (x0 : Nat) (x1 : Int32) (x2 : Int32) (x3 : Int32), k2 h0 x0 x1 x2 x3 = some r → q_V Γ sz 0 0 h0 [(0, .ref x0), (1, .int x1), (2, .int x2), (3, .int x3)] [] 2) : ∀ (x0 : Nat) (x1 : Int32) (x2 : Int32) (x3 : Int32), m_X12_atPlace_32 k2 h0 x0 x1 x2 x3 = some r → q_V Γ sz 0 0 h0 [(0, .ref x0), (1, .int x1), (2, .int x2), (3, .int x3)] [] 32 := by
  intro x0 x1 x2 x3 hm
  unfold m_X12_atPlace_32 at hm
  refine q_iinc C Rm.1 (i := 3) (n := 1) (v := (x3 + (1 : Int32))) 3 rfl (q_inc _ (by decide)) (lv' := [(3, .int ((x3 + (1 : Int32)))), (0, .ref x0), (1, .int x1), (2, .int x2)]) rfl (by decide) (by decide +kernel) ?_
  refine q_goto C (off := -33) 2 (by decide +kernel) (by decide) ?_
  refine q_loc [1, 2, 3, 0] rfl ?_
  exact hk2 _ _ _ _ hm
def m_X12_atPlace_2  : Nat → q_H → Nat → Int32 → Int32 → Int32 → Option Int32
  | 0, _, _, _, _, _ => none
  | n + 1, h0, x0, x1, x2, x3 =>
    (q_gn h0 x0 12 20).bind fun v1 =>
    (q_ai h0 v1 1 ((3 : Int32))).bind fun v2 =>
    if v2 ≤ x3 then
      some ((-1 : Int32))
    else
      (q_ca 12 h0 x0 (m_X12_sideOf h0 x0 x3)).bind fun r3 =>
      if r3 = x1 then
        (q_ca 12 h0 x0 (m_X12_placeOf h0 x0 x3)).bind fun r5 =>
        if r5 = x2 then
          some x3
        else
          m_X12_atPlace_32 (m_X12_atPlace_2 n) h0 x0 x1 x2 x3
      else
        m_X12_atPlace_32 (m_X12_atPlace_2 n) h0 x0 x1 x2 x3
set_option maxRecDepth 20000 in
set_option maxHeartbeats 1000000 in
theorem v_X12_atPlace_2 {Γ : q_G} {sz : Nat} {h0 : q_H} {r : Int32} (C : q_C Γ cX12_atPlace RX12) (Rm : q_Rm Γ 4 1 21 0 0)  (K : narrow .int (.int r) = .int r → q_K Γ cX12_atPlace .ireturn sz h0 0 0 [.int r])  : ∀ (n : Nat) (x0 : Nat) (x1 : Int32) (x2 : Int32) (x3 : Int32), m_X12_atPlace_2 n h0 x0 x1 x2 x3 = some r → q_V Γ sz 0 0 h0 [(0, .ref x0), (1, .int x1), (2, .int x2), (3, .int x3)] [] 2 := by
  intro n
  induction n with
  | zero => intro x0 x1 x2 x3 hm; cases hm
  | succ n ih =>
    intro x0 x1 x2 x3 hm
    unfold m_X12_atPlace_2 at hm
    refine q_iload_n C (k4 := 3) 3 rfl (by decide +kernel) ?_
    refine q_aload_n C (k4 := 0) 0 rfl (by decide +kernel) ?_
    refine q_getn C fl_12_39 hm (by decide +kernel) (fun v1 hm => ?_)
    refine q_iconst C (n := 3) (v := 3) (by decide) (by decide +kernel) ?_
    refine q_ir C hm (by decide +kernel) (fun v2 hm => ?_)
    refine q_icmp_ge C (off := 29) 38 hm (by decide +kernel) (by decide) (fun _ hm => ?_) (fun _ hm => ?_)
    · refine q_iconst C (n := (-1)) (v := (-1)) (by decide) (by decide +kernel) ?_
      exact q_riP hm K rfl (by decide +kernel)
    · refine q_aload_n C (k4 := 0) 0 rfl (by decide +kernel) ?_
      refine q_iload_n C (k4 := 3) 3 rfl (by decide +kernel) ?_
      refine q_viP C Rm (As := [.int x3]) (rest := []) Y_X12_sideOf Yv_X12_sideOf ml_X12_284 (by decide) (by decide) hm (fun r9 e9 => c_X12_sideOf _ _ _ _ _ _ _ _ e9) rfl rfl (Nat.le_of_ble_eq_true rfl) (by decide +kernel) (fun r3 hm z4 => ?_)
      refine q_iload_n C (k4 := 1) 1 rfl (by decide +kernel) ?_
      refine q_icmp_ne C (off := 14) 32 hm (by decide +kernel) (by decide) (fun _ hm => ?_) (fun _ hm => ?_)
      · exact v_X12_atPlace_32 C Rm K ih _ _ _ _ hm
      · refine q_aload_n C (k4 := 0) 0 rfl (by decide +kernel) ?_
        refine q_iload_n C (k4 := 3) 3 rfl (by decide +kernel) ?_
        refine q_viP C Rm (As := [.int x3]) (rest := []) Y_X12_placeOf Yv_X12_placeOf ml_X12_296 (by decide) (by decide) hm (fun r9 e9 => c_X12_placeOf _ _ _ _ _ _ _ _ e9) rfl rfl (Nat.le_of_ble_eq_true rfl) (by decide +kernel) (fun r5 hm z6 => ?_)
        refine q_iload_n C (k4 := 2) 2 rfl (by decide +kernel) ?_
        refine q_icmp_ne C (off := 5) 32 hm (by decide +kernel) (by decide) (fun _ hm => ?_) (fun _ hm => ?_)
        · exact v_X12_atPlace_32 C Rm K ih _ _ _ _ hm
        · refine q_iload_n C (k4 := 3) 3 rfl (by decide +kernel) ?_
          exact q_riP hm K rfl (by decide +kernel)
def m_X12_atPlace (h0 : q_H) (a0 : Nat) (a1 : Int32) (a2 : Int32) : Option Int32 :=
  m_X12_atPlace_2 q_fu h0 a0 a1 a2 ((0 : Int32))
set_option maxRecDepth 20000 in
set_option maxHeartbeats 1000000 in
theorem c_X12_atPlace (l : Launch) (base : Nat) (D : va_G) (tc : Nat → ClassId) (sz : Nat) (h0 : q_H) (a0 : Nat) (a1 : Int32) (a2 : Int32) {r : Int32} (hm : m_X12_atPlace h0 a0 a1 a2 = some r) : q_M l yX12_atPlace cX12_atPlace 4 (some .int) 1 21 0 0 base D tc [.ref a0, .int a1, .int a2] sz h0 (some (.int r)) sz h0 := by
  refine q_starti (by decide) (Nat.le_of_ble_eq_true rfl) (fun Γ B K => ?_)
  obtain ⟨C, Rm, -⟩ := B
  have C : q_C Γ cX12_atPlace RX12 := C
  show q_V Γ sz 0 0 h0 [(0, .ref a0), (1, .int a1), (2, .int a2)] [] 0
  unfold m_X12_atPlace at hm
  refine q_iconst C (n := 0) (v := 0) (by decide) (by decide +kernel) ?_
  refine q_istore_n C Rm.1 (k4 := 3) (i := 3) rfl (lv' := [(3, .int ((0 : Int32))), (0, .ref a0), (1, .int a1), (2, .int a2)]) rfl (by decide) (by decide +kernel) ?_
  refine q_loc [1, 2, 3, 0] rfl ?_
  exact v_X12_atPlace_2 C Rm K _ _ _ _ _ hm
def m_X12_slips_12  : Nat → q_H → Nat → Int32 → Int32 → Int32 → Int32 → Option q_H
  | 0, _, _, _, _, _, _ => none
  | n + 1, h, x0, x1, x2, x3, x4 =>
    if x3 ≤ x4 then
      some h
    else
      (q_ca 12 h x0 (m_X12_atPlace h x0 x1 x4)).bind fun r5 =>
      (q_gn h x0 12 20).bind fun v7 =>
      (q_ai h v7 1 (((60 : Int32) + r5))).bind fun v8 =>
      (q_gn h x0 12 20).bind fun v9 =>
      (q_ai h v9 1 ((2 : Int32))).bind fun v10 =>
      if v8 < ((x2 + v10) - (5 : Int32)) then
        (q_gn h x0 12 20).bind fun v11 =>
        (q_si h v11 1 ((((12 : Int32) + ((5 : Int32) * r5)) + (3 : Int32))) ((0 : Int32))).bind fun h12 =>
        some h12
      else
        m_X12_slips_12 n h x0 x1 x2 x3 ((x4 + (1 : Int32)))
set_option maxRecDepth 20000 in
set_option maxHeartbeats 1000000 in
theorem v_X12_slips_12 {Γ : q_G} {sz : Nat} {h' : q_H} (C : q_C Γ cX12_slips RX12) (Rm : q_Rm Γ 6 2 44 0 0)  (K : q_K Γ cX12_slips .return_ sz h' 0 0 [])  : ∀ (n : Nat) (h : q_H) (x0 : Nat) (x1 : Int32) (x2 : Int32) (x3 : Int32) (x4 : Int32), m_X12_slips_12 n h x0 x1 x2 x3 x4 = some h' → q_V Γ sz 0 0 h [(0, .ref x0), (1, .int x1), (2, .int x2), (3, .int x3), (4, .int x4)] [] 12 := by
  intro n
  induction n with
  | zero => intro h x0 x1 x2 x3 x4 hm; cases hm
  | succ n ih =>
    intro h x0 x1 x2 x3 x4 hm
    unfold m_X12_slips_12 at hm
    refine q_iload C (i := 4) 4 rfl (by decide +kernel) ?_
    refine q_iload_n C (k4 := 3) 3 rfl (by decide +kernel) ?_
    refine q_icmp_ge C (off := 60) 75 hm (by decide +kernel) (by decide) (fun _ hm => ?_) (fun _ hm => ?_)
    · exact q_rvS hm K (by decide +kernel)
    · refine q_aload_n C (k4 := 0) 0 rfl (by decide +kernel) ?_
      refine q_iload_n C (k4 := 1) 1 rfl (by decide +kernel) ?_
      refine q_iload C (i := 4) 4 rfl (by decide +kernel) ?_
      refine q_viP C Rm (As := [.int x1, .int x4]) (rest := []) Y_X12_atPlace Yv_X12_atPlace ml_X12_331 (by decide) (by decide) hm (fun r9 e9 => c_X12_atPlace _ _ _ _ _ _ _ _ _ e9) rfl rfl (Nat.le_of_ble_eq_true rfl) (by decide +kernel) (fun r5 hm z6 => ?_)
      refine q_istore C Rm.1 (i := 5) (lv' := [(5, .int r5), (0, .ref x0), (1, .int x1), (2, .int x2), (3, .int x3), (4, .int x4)]) rfl (by decide) (by decide +kernel) ?_
      refine q_aload_n C (k4 := 0) 1 rfl (by decide +kernel) ?_
      refine q_getn C fl_12_39 hm (by decide +kernel) (fun v7 hm => ?_)
      refine q_bipush C (n := 60) (v := 60) (by decide) (by decide +kernel) ?_
      refine q_iload C (i := 5) 0 rfl (by decide +kernel) ?_
      refine q_iadd C (by decide +kernel) ?_
      refine q_ir C hm (by decide +kernel) (fun v8 hm => ?_)
      refine q_iload_n C (k4 := 2) 3 rfl (by decide +kernel) ?_
      refine q_aload_n C (k4 := 0) 1 rfl (by decide +kernel) ?_
      refine q_getn C fl_12_39 hm (by decide +kernel) (fun v9 hm => ?_)
      refine q_iconst C (n := 2) (v := 2) (by decide) (by decide +kernel) ?_
      refine q_ir C hm (by decide +kernel) (fun v10 hm => ?_)
      refine q_iadd C (by decide +kernel) ?_
      refine q_iconst C (n := 5) (v := 5) (by decide) (by decide +kernel) ?_
      refine q_isub C (by decide +kernel) ?_
      refine q_icmp_lt C (off := 6) 53 hm (by decide +kernel) (by decide) (fun _ hm => ?_) (fun _ hm => ?_)
      · refine q_aload_n C (k4 := 0) 1 rfl (by decide +kernel) ?_
        refine q_getn C fl_12_39 hm (by decide +kernel) (fun v11 hm => ?_)
        refine q_bipush C (n := 12) (v := 12) (by decide) (by decide +kernel) ?_
        refine q_iconst C (n := 5) (v := 5) (by decide) (by decide +kernel) ?_
        refine q_iload C (i := 5) 0 rfl (by decide +kernel) ?_
        refine q_imul C (by decide +kernel) ?_
        refine q_iadd C (by decide +kernel) ?_
        refine q_iconst C (n := 3) (v := 3) (by decide) (by decide +kernel) ?_
        refine q_iadd C (by decide +kernel) ?_
        refine q_iconst C (n := 0) (v := 0) (by decide) (by decide +kernel) ?_
        refine q_iw C hm (by decide +kernel) (fun h12 hm => ?_)
        exact q_rvS hm K (by decide +kernel)
      · refine q_goto C (off := 19) 69 (by decide +kernel) (by decide) ?_
        refine q_iinc C Rm.1 (i := 4) (n := 1) (v := (x4 + (1 : Int32))) 5 rfl (q_inc _ (by decide)) (lv' := [(4, .int ((x4 + (1 : Int32)))), (5, .int r5), (0, .ref x0), (1, .int x1), (2, .int x2), (3, .int x3)]) rfl (by decide) (by decide +kernel) ?_
        refine q_goto C (off := -60) 12 (by decide +kernel) (by decide) ?_
        refine q_loc [2, 3, 4, 5, 0] rfl ?_
        exact ih _ _ _ _ _ _ hm
def m_X12_slips (h : q_H) (a0 : Nat) (a1 : Int32) (a2 : Int32) : Option q_H :=
  (q_ca 12 h a0 (m_X12_onesOn h a0 a1)).bind fun r1 =>
  (m_X12_bits r1).bind fun r3 =>
  m_X12_slips_12 q_fu h a0 a1 a2 r3 ((0 : Int32))
set_option maxRecDepth 20000 in
set_option maxHeartbeats 1000000 in
theorem c_X12_slips (l : Launch) (base : Nat) (D : va_G) (tc : Nat → ClassId) (sz : Nat) (h : q_H) (a0 : Nat) (a1 : Int32) (a2 : Int32) {h' : q_H} (hm : m_X12_slips h a0 a1 a2 = some h') : q_M l yX12_slips cX12_slips 6 none 2 44 0 0 base D tc [.ref a0, .int a1, .int a2] sz h none sz h' := by
  refine q_startv (by decide) (Nat.le_of_ble_eq_true rfl) (fun Γ B K => ?_)
  obtain ⟨C, Rm, -⟩ := B
  have C : q_C Γ cX12_slips RX12 := C
  show q_V Γ sz 0 0 h [(0, .ref a0), (1, .int a1), (2, .int a2)] [] 0
  unfold m_X12_slips at hm
  refine q_aload_n C (k4 := 0) 0 rfl (by decide +kernel) ?_
  refine q_iload_n C (k4 := 1) 1 rfl (by decide +kernel) ?_
  refine q_viP C Rm (As := [.int a1]) (rest := []) Y_X12_onesOn Yv_X12_onesOn ml_X12_309 (by decide) (by decide) hm (fun r9 e9 => c_X12_onesOn _ _ _ _ _ _ _ _ e9) rfl rfl (Nat.le_of_ble_eq_true rfl) (by decide +kernel) (fun r1 hm z2 => ?_)
  refine q_siP C Rm (As := [.int r1]) (rest := []) Y_X12_bits Ys_X12_bits ml_X12_312 (by decide) (by decide) hm (fun r9 e9 => c_X12_bits _ _ _ _ _ _ _ e9) rfl rfl (Nat.le_of_ble_eq_true rfl) (by decide +kernel) (fun r3 hm z4 => ?_)
  refine q_istore_n C Rm.1 (k4 := 3) (i := 3) rfl (lv' := [(3, .int r3), (0, .ref a0), (1, .int a1), (2, .int a2)]) rfl (by decide) (by decide +kernel) ?_
  refine q_iconst C (n := 0) (v := 0) (by decide) (by decide +kernel) ?_
  refine q_istore C Rm.1 (i := 4) (lv' := [(4, .int ((0 : Int32))), (3, .int r3), (0, .ref a0), (1, .int a1), (2, .int a2)]) rfl (by decide) (by decide +kernel) ?_
  refine q_loc [2, 3, 4, 1, 0] rfl ?_
  exact v_X12_slips_12 C Rm K _ _ _ _ _ _ _ hm
def m_X12_passes_77 (k52 : q_H → Nat → Int32 → Int32 → Option q_H) (h : q_H) (x0 : Nat) (x2 : Int32) (s0 : Int32) (s1 : Int32) : Option q_H :=
  (q_gn h x0 12 20).bind fun v25 =>
  (q_ai h v25 1 (((52 : Int32) + x2))).bind fun v26 =>
  (q_gn h x0 12 24).bind fun v27 =>
  (q_ai h v27 1 x2).bind fun v28 =>
  (q_gn h x0 12 24).bind fun v29 =>
  (q_ai h v29 1 x2).bind fun v30 =>
  (q_ca 12 h x0 (m_X12_tires h x0 x2 v30)).bind fun h32 =>
  (q_gn h32 x0 12 20).bind fun v33 =>
  (q_si h32 v33 1 ((((12 : Int32) + ((5 : Int32) * x2)) + (3 : Int32))) ((1 : Int32))).bind fun h34 =>
  k52 h34 x0 ((s1 + ((s0 * v26) * v28))) ((x2 + (1 : Int32)))
set_option maxRecDepth 20000 in
set_option maxHeartbeats 1000000 in
theorem v_X12_passes_77 {Γ : q_G} {sz : Nat} {h' : q_H} (C : q_C Γ cX12_passes RX12) (Rm : q_Rm Γ 3 5 122 0 0) {k52 : q_H → Nat → Int32 → Int32 → Option q_H} (K : q_K Γ cX12_passes .return_ sz h' 0 0 []) (hk52 : ∀ (h : q_H) (x0 : Nat) (x1 : Int32) (x2 : Int32), k52 h x0 x1 x2 = some h' → q_V Γ sz 0 0 h [(0, .ref x0), (1, .int x1), (2, .int x2)] [] 52) : ∀ (h : q_H) (x0 : Nat) (x2 : Int32) (s0 : Int32) (s1 : Int32), m_X12_passes_77 k52 h x0 x2 s0 s1 = some h' → q_V Γ sz 0 0 h [(0, .ref x0), (2, .int x2)] [.int s0, .int s1] 77 := by
  intro h x0 x2 s0 s1 hm
  unfold m_X12_passes_77 at hm
  refine q_aload_n C (k4 := 0) 0 rfl (by decide +kernel) ?_
  refine q_getn C fl_12_39 hm (by decide +kernel) (fun v25 hm => ?_)
  refine q_bipush C (n := 52) (v := 52) (by decide) (by decide +kernel) ?_
  refine q_iload_n C (k4 := 2) 1 rfl (by decide +kernel) ?_
  refine q_iadd C (by decide +kernel) ?_
  refine q_ir C hm (by decide +kernel) (fun v26 hm => ?_)
  refine q_imul C (by decide +kernel) ?_
  refine q_aload_n C (k4 := 0) 0 rfl (by decide +kernel) ?_
  refine q_getn C fl_12_49 hm (by decide +kernel) (fun v27 hm => ?_)
  refine q_iload_n C (k4 := 2) 1 rfl (by decide +kernel) ?_
  refine q_ir C hm (by decide +kernel) (fun v28 hm => ?_)
  refine q_imul C (by decide +kernel) ?_
  refine q_iadd C (by decide +kernel) ?_
  refine q_istore_n C Rm.1 (k4 := 1) (i := 1) rfl (lv' := [(1, .int ((s1 + ((s0 * v26) * v28)))), (0, .ref x0), (2, .int x2)]) rfl (by decide) (by decide +kernel) ?_
  refine q_aload_n C (k4 := 0) 1 rfl (by decide +kernel) ?_
  refine q_iload_n C (k4 := 2) 2 rfl (by decide +kernel) ?_
  refine q_aload_n C (k4 := 0) 1 rfl (by decide +kernel) ?_
  refine q_getn C fl_12_49 hm (by decide +kernel) (fun v29 hm => ?_)
  refine q_iload_n C (k4 := 2) 2 rfl (by decide +kernel) ?_
  refine q_ir C hm (by decide +kernel) (fun v30 hm => ?_)
  refine q_vvS C Rm (As := [.int x2, .int v30]) (rest := []) Y_X12_tires Yv_X12_tires ml_X12_341 (by decide) (by decide) hm (fun h32 e9 => c_X12_tires _ _ _ _ _ _ _ _ _ e9) rfl rfl (Nat.le_of_ble_eq_true rfl) (by decide +kernel) (fun h32 hm => ?_)
  refine q_aload_n C (k4 := 0) 1 rfl (by decide +kernel) ?_
  refine q_getn C fl_12_39 hm (by decide +kernel) (fun v33 hm => ?_)
  refine q_bipush C (n := 12) (v := 12) (by decide) (by decide +kernel) ?_
  refine q_iconst C (n := 5) (v := 5) (by decide) (by decide +kernel) ?_
  refine q_iload_n C (k4 := 2) 2 rfl (by decide +kernel) ?_
  refine q_imul C (by decide +kernel) ?_
  refine q_iadd C (by decide +kernel) ?_
  refine q_iconst C (n := 3) (v := 3) (by decide) (by decide +kernel) ?_
  refine q_iadd C (by decide +kernel) ?_
  refine q_iconst C (n := 1) (v := 1) (by decide) (by decide +kernel) ?_
  refine q_iw C hm (by decide +kernel) (fun h34 hm => ?_)
  refine q_iinc C Rm.1 (i := 2) (n := 1) (v := (x2 + (1 : Int32))) 2 rfl (q_inc _ (by decide)) (lv' := [(2, .int ((x2 + (1 : Int32)))), (1, .int ((s1 + ((s0 * v26) * v28)))), (0, .ref x0)]) rfl (by decide) (by decide +kernel) ?_
  refine q_goto C (off := -72) 52 (by decide +kernel) (by decide) ?_
  refine q_loc [2, 1, 0] rfl ?_
  exact hk52 _ _ _ _ hm
def m_X12_passes_175  (h : q_H) (x0 : Nat) : Option q_H :=
  (q_gn h x0 12 20).bind fun v37 =>
  (q_ai h v37 1 ((10 : Int32))).bind fun v38 =>
  (q_si h v37 1 ((10 : Int32)) ((v38 + (1 : Int32)))).bind fun h39 =>
  some h39
set_option maxRecDepth 20000 in
set_option maxHeartbeats 1000000 in
theorem v_X12_passes_175 {Γ : q_G} {sz : Nat} {h' : q_H} (C : q_C Γ cX12_passes RX12) (Rm : q_Rm Γ 3 5 122 0 0)  (K : q_K Γ cX12_passes .return_ sz h' 0 0 [])  : ∀ (h : q_H) (x0 : Nat), m_X12_passes_175 h x0 = some h' → q_V Γ sz 0 0 h [(0, .ref x0)] [] 175 := by
  intro h x0 hm
  unfold m_X12_passes_175 at hm
  refine q_aload_n C (k4 := 0) 0 rfl (by decide +kernel) ?_
  refine q_getn C fl_12_39 hm (by decide +kernel) (fun v37 hm => ?_)
  refine q_bipush C (n := 10) (v := 10) (by decide) (by decide +kernel) ?_
  refine q_dup2 C rfl rfl (by decide +kernel) ?_
  refine q_ir C hm (by decide +kernel) (fun v38 hm => ?_)
  refine q_iconst C (n := 1) (v := 1) (by decide) (by decide +kernel) ?_
  refine q_iadd C (by decide +kernel) ?_
  refine q_iw C hm (by decide +kernel) (fun h39 hm => ?_)
  exact q_rvS hm K (by decide +kernel)
def m_X12_passes_164  (h : q_H) (x0 : Nat) (x2 : Int32) : Option q_H :=
  if 0 ≤ x2 then
    m_X12_passes_175 h x0
  else
    (q_ca 12 h x0 (m_X12_slips h x0 ((1 : Int32)) ((0 - x2)))).bind fun h36 =>
    m_X12_passes_175 h36 x0
set_option maxRecDepth 20000 in
set_option maxHeartbeats 1000000 in
theorem v_X12_passes_164 {Γ : q_G} {sz : Nat} {h' : q_H} (C : q_C Γ cX12_passes RX12) (Rm : q_Rm Γ 3 5 122 0 0)  (K : q_K Γ cX12_passes .return_ sz h' 0 0 [])  : ∀ (h : q_H) (x0 : Nat) (x2 : Int32), m_X12_passes_164 h x0 x2 = some h' → q_V Γ sz 0 0 h [(0, .ref x0), (2, .int x2)] [] 164 := by
  intro h x0 x2 hm
  unfold m_X12_passes_164 at hm
  refine q_iload_n C (k4 := 2) 1 rfl (by decide +kernel) ?_
  refine q_if_ge C (off := 10) 175 hm (by decide +kernel) (by decide) (fun _ hm => ?_) (fun _ hm => ?_)
  · refine q_loc [0] rfl ?_
    exact v_X12_passes_175 C Rm K _ _ hm
  · refine q_aload_n C (k4 := 0) 0 rfl (by decide +kernel) ?_
    refine q_iconst C (n := 1) (v := 1) (by decide) (by decide +kernel) ?_
    refine q_iload_n C (k4 := 2) 1 rfl (by decide +kernel) ?_
    refine q_ineg C (by decide +kernel) ?_
    refine q_vvS C Rm (As := [.int ((1 : Int32)), .int ((0 - x2))]) (rest := []) Y_X12_slips Yv_X12_slips ml_X12_344 (by decide) (by decide) hm (fun h36 e9 => c_X12_slips _ _ _ _ _ _ _ _ _ e9) rfl rfl (Nat.le_of_ble_eq_true rfl) (by decide +kernel) (fun h36 hm => ?_)
    refine q_loc [0] rfl ?_
    exact v_X12_passes_175 C Rm K _ _ hm
def m_X12_passes_52  : Nat → q_H → Nat → Int32 → Int32 → Option q_H
  | 0, _, _, _, _ => none
  | n + 1, h, x0, x1, x2 =>
    (q_gn h x0 12 20).bind fun v13 =>
    (q_ai h v13 1 ((3 : Int32))).bind fun v14 =>
    if v14 ≤ x2 then
      (q_gn h x0 12 20).bind fun v15 =>
      (q_gn h x0 12 20).bind fun v16 =>
      (q_ai h v16 1 ((11 : Int32))).bind fun v17 =>
      (m_X12_within ((v17 + (x1 / (4 : Int32)))) ((-99 : Int32)) ((99 : Int32))).bind fun r18 =>
      (q_si h v15 1 ((11 : Int32)) r18).bind fun h20 =>
      if (x1 / (4 : Int32)) ≤ 0 then
        m_X12_passes_164 h20 x0 ((x1 / (4 : Int32)))
      else
        (q_ca 12 h20 x0 (m_X12_slips h20 x0 ((0 : Int32)) ((x1 / (4 : Int32))))).bind fun h22 =>
        m_X12_passes_164 h22 x0 ((x1 / (4 : Int32)))
    else
      (q_ca 12 h x0 (m_X12_sideOf h x0 x2)).bind fun r23 =>
      if r23 = (1 : Int32) then
        m_X12_passes_77 (m_X12_passes_52 n) h x0 x2 ((1 : Int32)) x1
      else
        m_X12_passes_77 (m_X12_passes_52 n) h x0 x2 ((-1 : Int32)) x1
set_option maxRecDepth 20000 in
set_option maxHeartbeats 1000000 in
theorem v_X12_passes_52 {Γ : q_G} {sz : Nat} {h' : q_H} (C : q_C Γ cX12_passes RX12) (Rm : q_Rm Γ 3 5 122 0 0)  (K : q_K Γ cX12_passes .return_ sz h' 0 0 [])  : ∀ (n : Nat) (h : q_H) (x0 : Nat) (x1 : Int32) (x2 : Int32), m_X12_passes_52 n h x0 x1 x2 = some h' → q_V Γ sz 0 0 h [(0, .ref x0), (1, .int x1), (2, .int x2)] [] 52 := by
  intro n
  induction n with
  | zero => intro h x0 x1 x2 hm; cases hm
  | succ n ih =>
    intro h x0 x1 x2 hm
    unfold m_X12_passes_52 at hm
    refine q_iload_n C (k4 := 2) 2 rfl (by decide +kernel) ?_
    refine q_aload_n C (k4 := 0) 0 rfl (by decide +kernel) ?_
    refine q_getn C fl_12_39 hm (by decide +kernel) (fun v13 hm => ?_)
    refine q_iconst C (n := 3) (v := 3) (by decide) (by decide +kernel) ?_
    refine q_ir C hm (by decide +kernel) (fun v14 hm => ?_)
    refine q_icmp_ge C (off := 68) 127 hm (by decide +kernel) (by decide) (fun _ hm => ?_) (fun _ hm => ?_)
    · refine q_iload_n C (k4 := 1) 1 rfl (by decide +kernel) ?_
      refine q_iconst C (n := 4) (v := 4) (by decide) (by decide +kernel) ?_
      refine q_idiv C (by decide) (by decide +kernel) ?_
      refine q_istore_n C Rm.1 (k4 := 2) (i := 2) rfl (lv' := [(2, .int ((x1 / (4 : Int32)))), (0, .ref x0), (1, .int x1)]) rfl (by decide) (by decide +kernel) ?_
      refine q_aload_n C (k4 := 0) 1 rfl (by decide +kernel) ?_
      refine q_getn C fl_12_39 hm (by decide +kernel) (fun v15 hm => ?_)
      refine q_bipush C (n := 11) (v := 11) (by decide) (by decide +kernel) ?_
      refine q_aload_n C (k4 := 0) 1 rfl (by decide +kernel) ?_
      refine q_getn C fl_12_39 hm (by decide +kernel) (fun v16 hm => ?_)
      refine q_bipush C (n := 11) (v := 11) (by decide) (by decide +kernel) ?_
      refine q_ir C hm (by decide +kernel) (fun v17 hm => ?_)
      refine q_iload_n C (k4 := 2) 0 rfl (by decide +kernel) ?_
      refine q_iadd C (by decide +kernel) ?_
      refine q_bipush C (n := (-99)) (v := (-99)) (by decide) (by decide +kernel) ?_
      refine q_bipush C (n := 99) (v := 99) (by decide) (by decide +kernel) ?_
      refine q_siP C Rm (As := [.int ((v17 + (x1 / (4 : Int32)))), .int ((-99 : Int32)), .int ((99 : Int32))]) (rest := [.int ((11 : Int32)), .ref v15]) Y_X12_within Ys_X12_within ml_X12_327 (by decide) (by decide) hm (fun r9 e9 => c_X12_within _ _ _ _ _ _ _ _ _ e9) rfl rfl (Nat.le_of_ble_eq_true rfl) (by decide +kernel) (fun r18 hm z19 => ?_)
      refine q_iw C hm (by decide +kernel) (fun h20 hm => ?_)
      refine q_iload_n C (k4 := 2) 0 rfl (by decide +kernel) ?_
      refine q_if_le C (off := 9) 164 hm (by decide +kernel) (by decide) (fun _ hm => ?_) (fun _ hm => ?_)
      · refine q_loc [1, 0] rfl ?_
        exact v_X12_passes_164 C Rm K _ _ _ hm
      · refine q_aload_n C (k4 := 0) 1 rfl (by decide +kernel) ?_
        refine q_iconst C (n := 0) (v := 0) (by decide) (by decide +kernel) ?_
        refine q_iload_n C (k4 := 2) 0 rfl (by decide +kernel) ?_
        refine q_vvS C Rm (As := [.int ((0 : Int32)), .int ((x1 / (4 : Int32)))]) (rest := []) Y_X12_slips Yv_X12_slips ml_X12_344 (by decide) (by decide) hm (fun h22 e9 => c_X12_slips _ _ _ _ _ _ _ _ _ e9) rfl rfl (Nat.le_of_ble_eq_true rfl) (by decide +kernel) (fun h22 hm => ?_)
        refine q_loc [1, 0] rfl ?_
        exact v_X12_passes_164 C Rm K _ _ _ hm
    · refine q_iload_n C (k4 := 1) 1 rfl (by decide +kernel) ?_
      refine q_aload_n C (k4 := 0) 0 rfl (by decide +kernel) ?_
      refine q_iload_n C (k4 := 2) 2 rfl (by decide +kernel) ?_
      refine q_viP C Rm (As := [.int x2]) (rest := [.int x1]) Y_X12_sideOf Yv_X12_sideOf ml_X12_284 (by decide) (by decide) hm (fun r9 e9 => c_X12_sideOf _ _ _ _ _ _ _ _ e9) rfl rfl (Nat.le_of_ble_eq_true rfl) (by decide +kernel) (fun r23 hm z24 => ?_)
      refine q_iconst C (n := 1) (v := 1) (by decide) (by decide +kernel) ?_
      refine q_icmp_ne C (off := 7) 76 hm (by decide +kernel) (by decide) (fun _ hm => ?_) (fun _ hm => ?_)
      · refine q_iconst C (n := (-1)) (v := (-1)) (by decide) (by decide +kernel) ?_
        refine q_loc [0, 2] rfl ?_
        exact v_X12_passes_77 C Rm K ih _ _ _ _ _ hm
      · refine q_iconst C (n := 1) (v := 1) (by decide) (by decide +kernel) ?_
        refine q_goto C (off := 4) 77 (by decide +kernel) (by decide) ?_
        refine q_loc [0, 2] rfl ?_
        exact v_X12_passes_77 C Rm K ih _ _ _ _ _ hm
def m_X12_passes_23  : Nat → q_H → Nat → Int32 → Int32 → Option q_H
  | 0, _, _, _, _ => none
  | n + 1, h, x0, x1, x2 =>
    (q_gn h x0 12 20).bind fun v6 =>
    (q_ai h v6 1 ((3 : Int32))).bind fun v7 =>
    if v7 ≤ x2 then
      m_X12_passes_52 q_fu h x0 x1 ((0 : Int32))
    else
      (q_gn h x0 12 24).bind fun v8 =>
      (q_ca 12 h x0 (m_X12_effortOf h x0 x2)).bind fun (r9, h10) =>
      (q_si h10 v8 1 x2 r9).bind fun h12 =>
      m_X12_passes_23 n h12 x0 x1 ((x2 + (1 : Int32)))
set_option maxRecDepth 20000 in
set_option maxHeartbeats 1000000 in
theorem v_X12_passes_23 {Γ : q_G} {sz : Nat} {h' : q_H} (C : q_C Γ cX12_passes RX12) (Rm : q_Rm Γ 3 5 122 0 0)  (K : q_K Γ cX12_passes .return_ sz h' 0 0 [])  : ∀ (n : Nat) (h : q_H) (x0 : Nat) (x1 : Int32) (x2 : Int32), m_X12_passes_23 n h x0 x1 x2 = some h' → q_V Γ sz 0 0 h [(0, .ref x0), (1, .int x1), (2, .int x2)] [] 23 := by
  intro n
  induction n with
  | zero => intro h x0 x1 x2 hm; cases hm
  | succ n ih =>
    intro h x0 x1 x2 hm
    unfold m_X12_passes_23 at hm
    refine q_iload_n C (k4 := 2) 2 rfl (by decide +kernel) ?_
    refine q_aload_n C (k4 := 0) 0 rfl (by decide +kernel) ?_
    refine q_getn C fl_12_39 hm (by decide +kernel) (fun v6 hm => ?_)
    refine q_iconst C (n := 3) (v := 3) (by decide) (by decide +kernel) ?_
    refine q_ir C hm (by decide +kernel) (fun v7 hm => ?_)
    refine q_icmp_ge C (off := 20) 50 hm (by decide +kernel) (by decide) (fun _ hm => ?_) (fun _ hm => ?_)
    · refine q_iconst C (n := 0) (v := 0) (by decide) (by decide +kernel) ?_
      refine q_istore_n C Rm.1 (k4 := 2) (i := 2) rfl (lv' := [(2, .int ((0 : Int32))), (0, .ref x0), (1, .int x1)]) rfl (by decide) (by decide +kernel) ?_
      refine q_loc [1, 2, 0] rfl ?_
      exact v_X12_passes_52 C Rm K _ _ _ _ _ hm
    · refine q_aload_n C (k4 := 0) 0 rfl (by decide +kernel) ?_
      refine q_getn C fl_12_49 hm (by decide +kernel) (fun v8 hm => ?_)
      refine q_iload_n C (k4 := 2) 2 rfl (by decide +kernel) ?_
      refine q_aload_n C (k4 := 0) 0 rfl (by decide +kernel) ?_
      refine q_iload_n C (k4 := 2) 2 rfl (by decide +kernel) ?_
      refine q_viS C Rm (As := [.int x2]) (rest := [.int x2, .ref v8]) Y_X12_effortOf Yv_X12_effortOf ml_X12_338 (by decide) (by decide) hm (fun r9 h10 e9 => c_X12_effortOf _ _ _ _ _ _ _ _ e9) rfl rfl (Nat.le_of_ble_eq_true rfl) (by decide +kernel) (fun r9 h10 hm z11 => ?_)
      refine q_iw C hm (by decide +kernel) (fun h12 hm => ?_)
      refine q_iinc C Rm.1 (i := 2) (n := 1) (v := (x2 + (1 : Int32))) 2 rfl (q_inc _ (by decide)) (lv' := [(2, .int ((x2 + (1 : Int32)))), (0, .ref x0), (1, .int x1)]) rfl (by decide) (by decide +kernel) ?_
      refine q_goto C (off := -24) 23 (by decide +kernel) (by decide) ?_
      refine q_loc [1, 2, 0] rfl ?_
      exact ih _ _ _ _ hm
def m_X12_passes (h : q_H) (a0 : Nat) : Option q_H :=
  (q_ca 12 h a0 (m_X12_isOver h a0)).bind fun r1 =>
  if r1 = 0 then
    m_X12_passes_23 q_fu h a0 ((0 : Int32)) ((0 : Int32))
  else
    (q_gn h a0 12 20).bind fun v3 =>
    (q_ai h v3 1 ((10 : Int32))).bind fun v4 =>
    (q_si h v3 1 ((10 : Int32)) ((v4 + (1 : Int32)))).bind fun h5 =>
    some h5
set_option maxRecDepth 20000 in
set_option maxHeartbeats 1000000 in
theorem c_X12_passes (l : Launch) (base : Nat) (D : va_G) (tc : Nat → ClassId) (sz : Nat) (h : q_H) (a0 : Nat) {h' : q_H} (hm : m_X12_passes h a0 = some h') : q_M l yX12_passes cX12_passes 3 none 5 122 0 0 base D tc [.ref a0] sz h none sz h' := by
  refine q_startv (by decide) (Nat.le_of_ble_eq_true rfl) (fun Γ B K => ?_)
  obtain ⟨C, Rm, -⟩ := B
  have C : q_C Γ cX12_passes RX12 := C
  show q_V Γ sz 0 0 h [(0, .ref a0)] [] 0
  unfold m_X12_passes at hm
  refine q_aload_n C (k4 := 0) 0 rfl (by decide +kernel) ?_
  refine q_viP C Rm (As := []) (rest := []) Y_X12_isOver Yv_X12_isOver ml_X12_335 (by decide) (by decide) hm (fun r9 e9 => c_X12_isOver _ _ _ _ _ _ _ e9) rfl rfl (Nat.le_of_ble_eq_true rfl) (by decide +kernel) (fun r1 hm z2 => ?_)
  refine q_if_eq C (off := 15) 19 hm (by decide +kernel) (by decide) (fun _ hm => ?_) (fun _ hm => ?_)
  · refine q_iconst C (n := 0) (v := 0) (by decide) (by decide +kernel) ?_
    refine q_istore_n C Rm.1 (k4 := 1) (i := 1) rfl (lv' := [(1, .int ((0 : Int32))), (0, .ref a0)]) rfl (by decide) (by decide +kernel) ?_
    refine q_iconst C (n := 0) (v := 0) (by decide) (by decide +kernel) ?_
    refine q_istore_n C Rm.1 (k4 := 2) (i := 2) rfl (lv' := [(2, .int ((0 : Int32))), (1, .int ((0 : Int32))), (0, .ref a0)]) rfl (by decide) (by decide +kernel) ?_
    refine q_loc [2, 1, 0] rfl ?_
    exact v_X12_passes_23 C Rm K _ _ _ _ _ hm
  · refine q_aload_n C (k4 := 0) 0 rfl (by decide +kernel) ?_
    refine q_getn C fl_12_39 hm (by decide +kernel) (fun v3 hm => ?_)
    refine q_bipush C (n := 10) (v := 10) (by decide) (by decide +kernel) ?_
    refine q_dup2 C rfl rfl (by decide +kernel) ?_
    refine q_ir C hm (by decide +kernel) (fun v4 hm => ?_)
    refine q_iconst C (n := 1) (v := 1) (by decide) (by decide +kernel) ?_
    refine q_iadd C (by decide +kernel) ?_
    refine q_iw C hm (by decide +kernel) (fun h5 hm => ?_)
    exact q_rvS hm K (by decide +kernel)
def m_X12_passesAll_2  : Nat → q_H → Nat → Int32 → Int32 → Option q_H
  | 0, _, _, _, _ => none
  | n + 1, h, x0, x1, x2 =>
    if x1 ≤ x2 then
      some h
    else
      (q_ca 12 h x0 (m_X12_passes h x0)).bind fun h2 =>
      m_X12_passesAll_2 n h2 x0 x1 ((x2 + (1 : Int32)))
set_option maxRecDepth 20000 in
set_option maxHeartbeats 1000000 in
theorem v_X12_passesAll_2 {Γ : q_G} {sz : Nat} {h' : q_H} (C : q_C Γ cX12_passesAll RX12) (Rm : q_Rm Γ 3 6 144 0 0)  (K : q_K Γ cX12_passesAll .return_ sz h' 0 0 [])  : ∀ (n : Nat) (h : q_H) (x0 : Nat) (x1 : Int32) (x2 : Int32), m_X12_passesAll_2 n h x0 x1 x2 = some h' → q_V Γ sz 0 0 h [(0, .ref x0), (1, .int x1), (2, .int x2)] [] 2 := by
  intro n
  induction n with
  | zero => intro h x0 x1 x2 hm; cases hm
  | succ n ih =>
    intro h x0 x1 x2 hm
    unfold m_X12_passesAll_2 at hm
    refine q_iload_n C (k4 := 2) 2 rfl (by decide +kernel) ?_
    refine q_iload_n C (k4 := 1) 1 rfl (by decide +kernel) ?_
    refine q_icmp_ge C (off := 13) 17 hm (by decide +kernel) (by decide) (fun _ hm => ?_) (fun _ hm => ?_)
    · exact q_rvS hm K (by decide +kernel)
    · refine q_aload_n C (k4 := 0) 0 rfl (by decide +kernel) ?_
      refine q_vvS C Rm (As := []) (rest := []) Y_X12_passes Yv_X12_passes ml_X12_347 (by decide) (by decide) hm (fun h2 e9 => c_X12_passes _ _ _ _ _ _ _ e9) rfl rfl (Nat.le_of_ble_eq_true rfl) (by decide +kernel) (fun h2 hm => ?_)
      refine q_iinc C Rm.1 (i := 2) (n := 1) (v := (x2 + (1 : Int32))) 2 rfl (q_inc _ (by decide)) (lv' := [(2, .int ((x2 + (1 : Int32)))), (0, .ref x0), (1, .int x1)]) rfl (by decide) (by decide +kernel) ?_
      refine q_goto C (off := -12) 2 (by decide +kernel) (by decide) ?_
      refine q_loc [1, 2, 0] rfl ?_
      exact ih _ _ _ _ hm
def m_X12_passesAll (h : q_H) (a0 : Nat) (a1 : Int32) : Option q_H :=
  m_X12_passesAll_2 q_fu h a0 a1 ((0 : Int32))
set_option maxRecDepth 20000 in
set_option maxHeartbeats 1000000 in
theorem c_X12_passesAll (l : Launch) (base : Nat) (D : va_G) (tc : Nat → ClassId) (sz : Nat) (h : q_H) (a0 : Nat) (a1 : Int32) {h' : q_H} (hm : m_X12_passesAll h a0 a1 = some h') : q_M l yX12_passesAll cX12_passesAll 3 none 6 144 0 0 base D tc [.ref a0, .int a1] sz h none sz h' := by
  refine q_startv (by decide) (Nat.le_of_ble_eq_true rfl) (fun Γ B K => ?_)
  obtain ⟨C, Rm, -⟩ := B
  have C : q_C Γ cX12_passesAll RX12 := C
  show q_V Γ sz 0 0 h [(0, .ref a0), (1, .int a1)] [] 0
  unfold m_X12_passesAll at hm
  refine q_iconst C (n := 0) (v := 0) (by decide) (by decide +kernel) ?_
  refine q_istore_n C Rm.1 (k4 := 2) (i := 2) rfl (lv' := [(2, .int ((0 : Int32))), (0, .ref a0), (1, .int a1)]) rfl (by decide) (by decide +kernel) ?_
  refine q_loc [1, 2, 0] rfl ?_
  exact v_X12_passesAll_2 C Rm K _ _ _ _ _ hm
def m_X12_keepsAct_52  : Nat → q_H → Nat → Int32 → Option q_H
  | 0, _, _, _ => none
  | n + 1, h, x0, x1 =>
    if (42 : Int32) ≤ x1 then
      (q_gi h x0 12 26).bind fun v8 =>
      (q_pf h x0 12 26 (.int ((v8 + (1 : Int32))))).bind fun h9 =>
      some h9
    else
      (q_gn h x0 12 25).bind fun v10 =>
      (q_gi h x0 12 26).bind fun v11 =>
      (q_gn h x0 12 20).bind fun v12 =>
      (q_ai h v12 1 (((10 : Int32) + x1))).bind fun v13 =>
      (q_si h v10 1 ((((42 : Int32) * v11) + x1)) v13).bind fun h14 =>
      m_X12_keepsAct_52 n h14 x0 ((x1 + (1 : Int32)))
set_option maxRecDepth 20000 in
set_option maxHeartbeats 1000000 in
theorem v_X12_keepsAct_52 {Γ : q_G} {sz : Nat} {h' : q_H} (C : q_C Γ cX12_keepsAct RX12) (Rm : q_Rm Γ 2 0 0 0 0)  (K : q_K Γ cX12_keepsAct .return_ sz h' 0 0 [])  : ∀ (n : Nat) (h : q_H) (x0 : Nat) (x1 : Int32), m_X12_keepsAct_52 n h x0 x1 = some h' → q_V Γ sz 0 0 h [(0, .ref x0), (1, .int x1)] [] 52 := by
  intro n
  induction n with
  | zero => intro h x0 x1 hm; cases hm
  | succ n ih =>
    intro h x0 x1 hm
    unfold m_X12_keepsAct_52 at hm
    refine q_iload_n C (k4 := 1) 1 rfl (by decide +kernel) ?_
    refine q_bipush C (n := 42) (v := 42) (by decide) (by decide +kernel) ?_
    refine q_icmp_ge C (off := 32) 87 hm (by decide +kernel) (by decide) (fun _ hm => ?_) (fun _ hm => ?_)
    · refine q_aload_n C (k4 := 0) 0 rfl (by decide +kernel) ?_
      refine q_dup C rfl (by decide +kernel) ?_
      refine q_geti C fl_12_260 hm (by decide +kernel) (fun v8 hm => ?_)
      refine q_iconst C (n := 1) (v := 1) (by decide) (by decide +kernel) ?_
      refine q_iadd C (by decide +kernel) ?_
      refine q_putf C fl_12_260 hm rfl rfl (by decide +kernel) (fun h9 hm => ?_)
      exact q_rvS hm K (by decide +kernel)
    · refine q_aload_n C (k4 := 0) 0 rfl (by decide +kernel) ?_
      refine q_getn C fl_12_52 hm (by decide +kernel) (fun v10 hm => ?_)
      refine q_bipush C (n := 42) (v := 42) (by decide) (by decide +kernel) ?_
      refine q_aload_n C (k4 := 0) 0 rfl (by decide +kernel) ?_
      refine q_geti C fl_12_260 hm (by decide +kernel) (fun v11 hm => ?_)
      refine q_imul C (by decide +kernel) ?_
      refine q_iload_n C (k4 := 1) 1 rfl (by decide +kernel) ?_
      refine q_iadd C (by decide +kernel) ?_
      refine q_aload_n C (k4 := 0) 0 rfl (by decide +kernel) ?_
      refine q_getn C fl_12_39 hm (by decide +kernel) (fun v12 hm => ?_)
      refine q_bipush C (n := 10) (v := 10) (by decide) (by decide +kernel) ?_
      refine q_iload_n C (k4 := 1) 1 rfl (by decide +kernel) ?_
      refine q_iadd C (by decide +kernel) ?_
      refine q_ir C hm (by decide +kernel) (fun v13 hm => ?_)
      refine q_iw C hm (by decide +kernel) (fun h14 hm => ?_)
      refine q_iinc C Rm.1 (i := 1) (n := 1) (v := (x1 + (1 : Int32))) 1 rfl (q_inc _ (by decide)) (lv' := [(1, .int ((x1 + (1 : Int32)))), (0, .ref x0)]) rfl (by decide) (by decide +kernel) ?_
      refine q_goto C (off := -32) 52 (by decide +kernel) (by decide) ?_
      refine q_loc [1, 0] rfl ?_
      exact ih _ _ _ hm
def m_X12_keepsAct_50  (h : q_H) (x0 : Nat) : Option q_H :=
  m_X12_keepsAct_52 q_fu h x0 ((0 : Int32))
set_option maxRecDepth 20000 in
set_option maxHeartbeats 1000000 in
theorem v_X12_keepsAct_50 {Γ : q_G} {sz : Nat} {h' : q_H} (C : q_C Γ cX12_keepsAct RX12) (Rm : q_Rm Γ 2 0 0 0 0)  (K : q_K Γ cX12_keepsAct .return_ sz h' 0 0 [])  : ∀ (h : q_H) (x0 : Nat), m_X12_keepsAct_50 h x0 = some h' → q_V Γ sz 0 0 h [(0, .ref x0)] [] 50 := by
  intro h x0 hm
  unfold m_X12_keepsAct_50 at hm
  refine q_iconst C (n := 0) (v := 0) (by decide) (by decide +kernel) ?_
  refine q_istore_n C Rm.1 (k4 := 1) (i := 1) rfl (lv' := [(1, .int ((0 : Int32))), (0, .ref x0)]) rfl (by decide) (by decide +kernel) ?_
  refine q_loc [1, 0] rfl ?_
  exact v_X12_keepsAct_52 C Rm K _ _ _ _ hm
def m_X12_keepsAct_12  : Nat → q_H → Nat → Int32 → Option q_H
  | 0, _, _, _ => none
  | n + 1, h, x0, x1 =>
    if (840 : Int32) ≤ x1 then
      (q_gi h x0 12 26).bind fun v2 =>
      (q_pf h x0 12 26 (.int ((v2 - (1 : Int32))))).bind fun h3 =>
      m_X12_keepsAct_50 h3 x0
    else
      (q_gn h x0 12 25).bind fun v4 =>
      (q_gn h x0 12 25).bind fun v5 =>
      (q_ai h v5 1 x1).bind fun v6 =>
      (q_si h v4 1 ((x1 - (42 : Int32))) v6).bind fun h7 =>
      m_X12_keepsAct_12 n h7 x0 ((x1 + (1 : Int32)))
set_option maxRecDepth 20000 in
set_option maxHeartbeats 1000000 in
theorem v_X12_keepsAct_12 {Γ : q_G} {sz : Nat} {h' : q_H} (C : q_C Γ cX12_keepsAct RX12) (Rm : q_Rm Γ 2 0 0 0 0)  (K : q_K Γ cX12_keepsAct .return_ sz h' 0 0 [])  : ∀ (n : Nat) (h : q_H) (x0 : Nat) (x1 : Int32), m_X12_keepsAct_12 n h x0 x1 = some h' → q_V Γ sz 0 0 h [(0, .ref x0), (1, .int x1)] [] 12 := by
  intro n
  induction n with
  | zero => intro h x0 x1 hm; cases hm
  | succ n ih =>
    intro h x0 x1 hm
    unfold m_X12_keepsAct_12 at hm
    refine q_iload_n C (k4 := 1) 1 rfl (by decide +kernel) ?_
    refine q_sipush C (n := 840) (v := 840) (by decide) (by decide +kernel) ?_
    refine q_icmp_ge C (off := 24) 40 hm (by decide +kernel) (by decide) (fun _ hm => ?_) (fun _ hm => ?_)
    · refine q_aload_n C (k4 := 0) 0 rfl (by decide +kernel) ?_
      refine q_dup C rfl (by decide +kernel) ?_
      refine q_geti C fl_12_260 hm (by decide +kernel) (fun v2 hm => ?_)
      refine q_iconst C (n := 1) (v := 1) (by decide) (by decide +kernel) ?_
      refine q_isub C (by decide +kernel) ?_
      refine q_putf C fl_12_260 hm rfl rfl (by decide +kernel) (fun h3 hm => ?_)
      refine q_loc [0] rfl ?_
      exact v_X12_keepsAct_50 C Rm K _ _ hm
    · refine q_aload_n C (k4 := 0) 0 rfl (by decide +kernel) ?_
      refine q_getn C fl_12_52 hm (by decide +kernel) (fun v4 hm => ?_)
      refine q_iload_n C (k4 := 1) 1 rfl (by decide +kernel) ?_
      refine q_bipush C (n := 42) (v := 42) (by decide) (by decide +kernel) ?_
      refine q_isub C (by decide +kernel) ?_
      refine q_aload_n C (k4 := 0) 0 rfl (by decide +kernel) ?_
      refine q_getn C fl_12_52 hm (by decide +kernel) (fun v5 hm => ?_)
      refine q_iload_n C (k4 := 1) 1 rfl (by decide +kernel) ?_
      refine q_ir C hm (by decide +kernel) (fun v6 hm => ?_)
      refine q_iw C hm (by decide +kernel) (fun h7 hm => ?_)
      refine q_iinc C Rm.1 (i := 1) (n := 1) (v := (x1 + (1 : Int32))) 1 rfl (q_inc _ (by decide)) (lv' := [(1, .int ((x1 + (1 : Int32)))), (0, .ref x0)]) rfl (by decide) (by decide +kernel) ?_
      refine q_goto C (off := -25) 12 (by decide +kernel) (by decide) ?_
      refine q_loc [1, 0] rfl ?_
      exact ih _ _ _ hm
def m_X12_keepsAct (h : q_H) (a0 : Nat) : Option q_H :=
  (q_gi h a0 12 26).bind fun v1 =>
  if v1 = (20 : Int32) then
    m_X12_keepsAct_12 q_fu h a0 ((42 : Int32))
  else
    m_X12_keepsAct_50 h a0
set_option maxRecDepth 20000 in
set_option maxHeartbeats 1000000 in
theorem c_X12_keepsAct (l : Launch) (base : Nat) (D : va_G) (tc : Nat → ClassId) (sz : Nat) (h : q_H) (a0 : Nat) {h' : q_H} (hm : m_X12_keepsAct h a0 = some h') : q_M l yX12_keepsAct cX12_keepsAct 2 none 0 0 0 0 base D tc [.ref a0] sz h none sz h' := by
  refine q_startv (by decide) (Nat.le_of_ble_eq_true rfl) (fun Γ B K => ?_)
  obtain ⟨C, Rm, -⟩ := B
  have C : q_C Γ cX12_keepsAct RX12 := C
  show q_V Γ sz 0 0 h [(0, .ref a0)] [] 0
  unfold m_X12_keepsAct at hm
  refine q_aload_n C (k4 := 0) 0 rfl (by decide +kernel) ?_
  refine q_geti C fl_12_260 hm (by decide +kernel) (fun v1 hm => ?_)
  refine q_bipush C (n := 20) (v := 20) (by decide) (by decide +kernel) ?_
  refine q_icmp_ne C (off := 44) 50 hm (by decide +kernel) (by decide) (fun _ hm => ?_) (fun _ hm => ?_)
  · exact v_X12_keepsAct_50 C Rm K _ _ hm
  · refine q_bipush C (n := 42) (v := 42) (by decide) (by decide +kernel) ?_
    refine q_istore_n C Rm.1 (k4 := 1) (i := 1) rfl (lv' := [(1, .int ((42 : Int32))), (0, .ref a0)]) rfl (by decide) (by decide +kernel) ?_
    refine q_loc [1, 0] rfl ?_
    exact v_X12_keepsAct_12 C Rm K _ _ _ _ hm
def m_X12_undo_21  : Nat → q_H → Nat → Int32 → Option (Int32 × q_H)
  | 0, _, _, _ => none
  | n + 1, h, x0, x1 =>
    if (42 : Int32) ≤ x1 then
      (q_gi h x0 12 26).bind fun v4 =>
      some (v4, h)
    else
      (q_gn h x0 12 20).bind fun v5 =>
      (q_gn h x0 12 25).bind fun v6 =>
      (q_gi h x0 12 26).bind fun v7 =>
      (q_ai h v6 1 ((((42 : Int32) * v7) + x1))).bind fun v8 =>
      (q_si h v5 1 (((10 : Int32) + x1)) v8).bind fun h9 =>
      m_X12_undo_21 n h9 x0 ((x1 + (1 : Int32)))
set_option maxRecDepth 20000 in
set_option maxHeartbeats 1000000 in
theorem v_X12_undo_21 {Γ : q_G} {sz : Nat} {r : Int32} {h' : q_H} (C : q_C Γ cX12_undo RX12) (Rm : q_Rm Γ 2 0 0 0 0)  (K : narrow .int (.int r) = .int r → q_K Γ cX12_undo .ireturn sz h' 0 0 [.int r])  : ∀ (n : Nat) (h : q_H) (x0 : Nat) (x1 : Int32), m_X12_undo_21 n h x0 x1 = some (r, h') → q_V Γ sz 0 0 h [(0, .ref x0), (1, .int x1)] [] 21 := by
  intro n
  induction n with
  | zero => intro h x0 x1 hm; cases hm
  | succ n ih =>
    intro h x0 x1 hm
    unfold m_X12_undo_21 at hm
    refine q_iload_n C (k4 := 1) 1 rfl (by decide +kernel) ?_
    refine q_bipush C (n := 42) (v := 42) (by decide) (by decide +kernel) ?_
    refine q_icmp_ge C (off := 32) 56 hm (by decide +kernel) (by decide) (fun _ hm => ?_) (fun _ hm => ?_)
    · refine q_aload_n C (k4 := 0) 0 rfl (by decide +kernel) ?_
      refine q_geti C fl_12_260 hm (by decide +kernel) (fun v4 hm => ?_)
      exact q_riS hm K rfl (by decide +kernel)
    · refine q_aload_n C (k4 := 0) 0 rfl (by decide +kernel) ?_
      refine q_getn C fl_12_39 hm (by decide +kernel) (fun v5 hm => ?_)
      refine q_bipush C (n := 10) (v := 10) (by decide) (by decide +kernel) ?_
      refine q_iload_n C (k4 := 1) 1 rfl (by decide +kernel) ?_
      refine q_iadd C (by decide +kernel) ?_
      refine q_aload_n C (k4 := 0) 0 rfl (by decide +kernel) ?_
      refine q_getn C fl_12_52 hm (by decide +kernel) (fun v6 hm => ?_)
      refine q_bipush C (n := 42) (v := 42) (by decide) (by decide +kernel) ?_
      refine q_aload_n C (k4 := 0) 0 rfl (by decide +kernel) ?_
      refine q_geti C fl_12_260 hm (by decide +kernel) (fun v7 hm => ?_)
      refine q_imul C (by decide +kernel) ?_
      refine q_iload_n C (k4 := 1) 1 rfl (by decide +kernel) ?_
      refine q_iadd C (by decide +kernel) ?_
      refine q_ir C hm (by decide +kernel) (fun v8 hm => ?_)
      refine q_iw C hm (by decide +kernel) (fun h9 hm => ?_)
      refine q_iinc C Rm.1 (i := 1) (n := 1) (v := (x1 + (1 : Int32))) 1 rfl (q_inc _ (by decide)) (lv' := [(1, .int ((x1 + (1 : Int32)))), (0, .ref x0)]) rfl (by decide) (by decide +kernel) ?_
      refine q_goto C (off := -32) 21 (by decide +kernel) (by decide) ?_
      refine q_loc [1, 0] rfl ?_
      exact ih _ _ _ hm
def m_X12_undo (h : q_H) (a0 : Nat) : Option (Int32 × q_H) :=
  (q_gi h a0 12 26).bind fun v1 =>
  if v1 = 0 then
    some ((-1 : Int32), h)
  else
    (q_gi h a0 12 26).bind fun v2 =>
    (q_pf h a0 12 26 (.int ((v2 - (1 : Int32))))).bind fun h3 =>
    m_X12_undo_21 q_fu h3 a0 ((0 : Int32))
set_option maxRecDepth 20000 in
set_option maxHeartbeats 1000000 in
theorem c_X12_undo (l : Launch) (base : Nat) (D : va_G) (tc : Nat → ClassId) (sz : Nat) (h : q_H) (a0 : Nat) {r : Int32} {h' : q_H} (hm : m_X12_undo h a0 = some (r, h')) : q_M l yX12_undo cX12_undo 2 (some .int) 0 0 0 0 base D tc [.ref a0] sz h (some (.int r)) sz h' := by
  refine q_starti (by decide) (Nat.le_of_ble_eq_true rfl) (fun Γ B K => ?_)
  obtain ⟨C, Rm, -⟩ := B
  have C : q_C Γ cX12_undo RX12 := C
  show q_V Γ sz 0 0 h [(0, .ref a0)] [] 0
  unfold m_X12_undo at hm
  refine q_aload_n C (k4 := 0) 0 rfl (by decide +kernel) ?_
  refine q_geti C fl_12_260 hm (by decide +kernel) (fun v1 hm => ?_)
  refine q_if_ne C (off := 5) 9 hm (by decide +kernel) (by decide) (fun _ hm => ?_) (fun _ hm => ?_)
  · refine q_aload_n C (k4 := 0) 0 rfl (by decide +kernel) ?_
    refine q_dup C rfl (by decide +kernel) ?_
    refine q_geti C fl_12_260 hm (by decide +kernel) (fun v2 hm => ?_)
    refine q_iconst C (n := 1) (v := 1) (by decide) (by decide +kernel) ?_
    refine q_isub C (by decide +kernel) ?_
    refine q_putf C fl_12_260 hm rfl rfl (by decide +kernel) (fun h3 hm => ?_)
    refine q_iconst C (n := 0) (v := 0) (by decide) (by decide +kernel) ?_
    refine q_istore_n C Rm.1 (k4 := 1) (i := 1) rfl (lv' := [(1, .int ((0 : Int32))), (0, .ref a0)]) rfl (by decide) (by decide +kernel) ?_
    refine q_loc [1, 0] rfl ?_
    exact v_X12_undo_21 C Rm K _ _ _ _ hm
  · refine q_iconst C (n := (-1)) (v := (-1)) (by decide) (by decide +kernel) ?_
    exact q_riS hm K rfl (by decide +kernel)
def m_X12_heave (h : q_H) (a0 : Nat) : Option (Int32 × q_H) :=
  (q_ca 12 h a0 (m_X12_isRope h a0)).bind fun r1 =>
  if r1 = 0 then
    some ((-1 : Int32), h)
  else
    (q_gn h a0 12 20).bind fun v3 =>
    (q_ai h v3 1 ((10 : Int32))).bind fun v4 =>
    if v4 = (999 : Int32) then
      some ((-1 : Int32), h)
    else
      (q_ca 12 h a0 (m_X12_keepsAct h a0)).bind fun h6 =>
      (q_ca 12 h6 a0 (m_X12_passes h6 a0)).bind fun h8 =>
      (q_ca 12 h8 a0 (m_X12_ribbon h8 a0)).bind fun r9 =>
      some (r9, h8)
set_option maxRecDepth 20000 in
set_option maxHeartbeats 1000000 in
theorem c_X12_heave (l : Launch) (base : Nat) (D : va_G) (tc : Nat → ClassId) (sz : Nat) (h : q_H) (a0 : Nat) {r : Int32} {h' : q_H} (hm : m_X12_heave h a0 = some (r, h')) : q_M l yX12_heave cX12_heave 1 (some .int) 6 144 0 0 base D tc [.ref a0] sz h (some (.int r)) sz h' := by
  refine q_starti (by decide) (Nat.le_of_ble_eq_true rfl) (fun Γ B K => ?_)
  obtain ⟨C, Rm, -⟩ := B
  have C : q_C Γ cX12_heave RX12 := C
  show q_V Γ sz 0 0 h [(0, .ref a0)] [] 0
  unfold m_X12_heave at hm
  refine q_aload_n C (k4 := 0) 0 rfl (by decide +kernel) ?_
  refine q_viP C Rm (As := []) (rest := []) Y_X12_isRope Yv_X12_isRope ml_X12_299 (by decide) (by decide) hm (fun r9 e9 => c_X12_isRope _ _ _ _ _ _ _ e9) rfl rfl (Nat.le_of_ble_eq_true rfl) (by decide +kernel) (fun r1 hm z2 => ?_)
  refine q_if_eq C (off := 16) 20 hm (by decide +kernel) (by decide) (fun _ hm => ?_) (fun _ hm => ?_)
  · refine q_iconst C (n := (-1)) (v := (-1)) (by decide) (by decide +kernel) ?_
    exact q_riS hm K rfl (by decide +kernel)
  · refine q_aload_n C (k4 := 0) 0 rfl (by decide +kernel) ?_
    refine q_getn C fl_12_39 hm (by decide +kernel) (fun v3 hm => ?_)
    refine q_bipush C (n := 10) (v := 10) (by decide) (by decide +kernel) ?_
    refine q_ir C hm (by decide +kernel) (fun v4 hm => ?_)
    refine q_sipush C (n := 999) (v := 999) (by decide) (by decide +kernel) ?_
    refine q_icmp_ne C (off := 5) 22 hm (by decide +kernel) (by decide) (fun _ hm => ?_) (fun _ hm => ?_)
    · refine q_aload_n C (k4 := 0) 0 rfl (by decide +kernel) ?_
      refine q_vvS C Rm (As := []) (rest := []) Y_X12_keepsAct Yv_X12_keepsAct ml_X12_350 (by decide) (by decide) hm (fun h6 e9 => c_X12_keepsAct _ _ _ _ _ _ _ e9) rfl rfl (Nat.le_of_ble_eq_true rfl) (by decide +kernel) (fun h6 hm => ?_)
      refine q_aload_n C (k4 := 0) 0 rfl (by decide +kernel) ?_
      refine q_vvS C Rm (As := []) (rest := []) Y_X12_passes Yv_X12_passes ml_X12_347 (by decide) (by decide) hm (fun h8 e9 => c_X12_passes _ _ _ _ _ _ _ e9) rfl rfl (Nat.le_of_ble_eq_true rfl) (by decide +kernel) (fun h8 hm => ?_)
      refine q_aload_n C (k4 := 0) 0 rfl (by decide +kernel) ?_
      refine q_viP C Rm (As := []) (rest := []) Y_X12_ribbon Yv_X12_ribbon ml_X12_353 (by decide) (by decide) hm (fun r9 e9 => c_X12_ribbon _ _ _ _ _ _ _ e9) rfl rfl (Nat.le_of_ble_eq_true rfl) (by decide +kernel) (fun r9 hm z10 => ?_)
      exact q_riS hm K rfl (by decide +kernel)
    · refine q_iconst C (n := (-1)) (v := (-1)) (by decide) (by decide +kernel) ?_
      exact q_riS hm K rfl (by decide +kernel)
def m_X12_send_87 (k34 : q_H → Nat → Int32 → Int32 → Int32 → Int32 → Option (Int32 × q_H)) (h : q_H) (x0 : Nat) (x1 : Int32) (x2 : Int32) (x3 : Int32) (x4 : Int32) : Option (Int32 × q_H) :=
  k34 h x0 x1 x2 x3 ((x4 + (1 : Int32)))
set_option maxRecDepth 20000 in
set_option maxHeartbeats 1000000 in
theorem v_X12_send_87 {Γ : q_G} {sz : Nat} {r : Int32} {h' : q_H} (C : q_C Γ cX12_send RX12) (Rm : q_Rm Γ 5 2 44 0 0) {k34 : q_H → Nat → Int32 → Int32 → Int32 → Int32 → Option (Int32 × q_H)} (K : narrow .int (.int r) = .int r → q_K Γ cX12_send .ireturn sz h' 0 0 [.int r]) (hk34 : ∀ (h : q_H) (x0 : Nat) (x1 : Int32) (x2 : Int32) (x3 : Int32) (x4 : Int32), k34 h x0 x1 x2 x3 x4 = some (r, h') → q_V Γ sz 0 0 h [(0, .ref x0), (1, .int x1), (2, .int x2), (3, .int x3), (4, .int x4)] [] 34) : ∀ (h : q_H) (x0 : Nat) (x1 : Int32) (x2 : Int32) (x3 : Int32) (x4 : Int32), m_X12_send_87 k34 h x0 x1 x2 x3 x4 = some (r, h') → q_V Γ sz 0 0 h [(0, .ref x0), (1, .int x1), (2, .int x2), (3, .int x3), (4, .int x4)] [] 87 := by
  intro h x0 x1 x2 x3 x4 hm
  unfold m_X12_send_87 at hm
  refine q_iinc C Rm.1 (i := 4) (n := 1) (v := (x4 + (1 : Int32))) 4 rfl (q_inc _ (by decide)) (lv' := [(4, .int ((x4 + (1 : Int32)))), (0, .ref x0), (1, .int x1), (2, .int x2), (3, .int x3)]) rfl (by decide) (by decide +kernel) ?_
  refine q_goto C (off := -56) 34 (by decide +kernel) (by decide) ?_
  refine q_loc [1, 2, 3, 4, 0] rfl ?_
  exact hk34 _ _ _ _ _ _ hm
def m_X12_send_34  : Nat → q_H → Nat → Int32 → Int32 → Int32 → Int32 → Option (Int32 × q_H)
  | 0, _, _, _, _, _, _ => none
  | n + 1, h, x0, x1, x2, x3, x4 =>
    (q_gn h x0 12 20).bind fun v11 =>
    (q_ai h v11 1 ((3 : Int32))).bind fun v12 =>
    if v12 ≤ x4 then
      (q_gn h x0 12 20).bind fun v13 =>
      (q_si h v13 1 (((12 : Int32) + ((5 : Int32) * x1))) (((1 : Int32) - x2))).bind fun h14 =>
      (q_gn h14 x0 12 20).bind fun v15 =>
      (q_si h14 v15 1 ((((12 : Int32) + ((5 : Int32) * x1)) + (1 : Int32))) x3).bind fun h16 =>
      some (((1 : Int32) - x2), h16)
    else
      (q_ca 12 h x0 (m_X12_sideOf h x0 x4)).bind fun r17 =>
      if r17 = x2 then
        (q_ca 12 h x0 (m_X12_placeOf h x0 x4)).bind fun r19 =>
        (q_ca 12 h x0 (m_X12_placeOf h x0 x1)).bind fun r21 =>
        if r19 ≤ r21 then
          m_X12_send_87 (m_X12_send_34 n) h x0 x1 x2 x3 x4
        else
          (q_gn h x0 12 20).bind fun v23 =>
          (q_ai h v23 1 ((((12 : Int32) + ((5 : Int32) * x4)) + (1 : Int32)))).bind fun v24 =>
          (q_si h v23 1 ((((12 : Int32) + ((5 : Int32) * x4)) + (1 : Int32))) ((v24 - (1 : Int32)))).bind fun h25 =>
          m_X12_send_87 (m_X12_send_34 n) h25 x0 x1 x2 x3 x4
      else
        m_X12_send_87 (m_X12_send_34 n) h x0 x1 x2 x3 x4
set_option maxRecDepth 20000 in
set_option maxHeartbeats 1000000 in
theorem v_X12_send_34 {Γ : q_G} {sz : Nat} {r : Int32} {h' : q_H} (C : q_C Γ cX12_send RX12) (Rm : q_Rm Γ 5 2 44 0 0)  (K : narrow .int (.int r) = .int r → q_K Γ cX12_send .ireturn sz h' 0 0 [.int r])  : ∀ (n : Nat) (h : q_H) (x0 : Nat) (x1 : Int32) (x2 : Int32) (x3 : Int32) (x4 : Int32), m_X12_send_34 n h x0 x1 x2 x3 x4 = some (r, h') → q_V Γ sz 0 0 h [(0, .ref x0), (1, .int x1), (2, .int x2), (3, .int x3), (4, .int x4)] [] 34 := by
  intro n
  induction n with
  | zero => intro h x0 x1 x2 x3 x4 hm; cases hm
  | succ n ih =>
    intro h x0 x1 x2 x3 x4 hm
    unfold m_X12_send_34 at hm
    refine q_iload C (i := 4) 4 rfl (by decide +kernel) ?_
    refine q_aload_n C (k4 := 0) 0 rfl (by decide +kernel) ?_
    refine q_getn C fl_12_39 hm (by decide +kernel) (fun v11 hm => ?_)
    refine q_iconst C (n := 3) (v := 3) (by decide) (by decide +kernel) ?_
    refine q_ir C hm (by decide +kernel) (fun v12 hm => ?_)
    refine q_icmp_ge C (off := 51) 93 hm (by decide +kernel) (by decide) (fun _ hm => ?_) (fun _ hm => ?_)
    · refine q_aload_n C (k4 := 0) 0 rfl (by decide +kernel) ?_
      refine q_getn C fl_12_39 hm (by decide +kernel) (fun v13 hm => ?_)
      refine q_bipush C (n := 12) (v := 12) (by decide) (by decide +kernel) ?_
      refine q_iconst C (n := 5) (v := 5) (by decide) (by decide +kernel) ?_
      refine q_iload_n C (k4 := 1) 1 rfl (by decide +kernel) ?_
      refine q_imul C (by decide +kernel) ?_
      refine q_iadd C (by decide +kernel) ?_
      refine q_iconst C (n := 1) (v := 1) (by decide) (by decide +kernel) ?_
      refine q_iload_n C (k4 := 2) 2 rfl (by decide +kernel) ?_
      refine q_isub C (by decide +kernel) ?_
      refine q_iw C hm (by decide +kernel) (fun h14 hm => ?_)
      refine q_aload_n C (k4 := 0) 0 rfl (by decide +kernel) ?_
      refine q_getn C fl_12_39 hm (by decide +kernel) (fun v15 hm => ?_)
      refine q_bipush C (n := 12) (v := 12) (by decide) (by decide +kernel) ?_
      refine q_iconst C (n := 5) (v := 5) (by decide) (by decide +kernel) ?_
      refine q_iload_n C (k4 := 1) 1 rfl (by decide +kernel) ?_
      refine q_imul C (by decide +kernel) ?_
      refine q_iadd C (by decide +kernel) ?_
      refine q_iconst C (n := 1) (v := 1) (by decide) (by decide +kernel) ?_
      refine q_iadd C (by decide +kernel) ?_
      refine q_iload_n C (k4 := 3) 3 rfl (by decide +kernel) ?_
      refine q_iw C hm (by decide +kernel) (fun h16 hm => ?_)
      refine q_iconst C (n := 1) (v := 1) (by decide) (by decide +kernel) ?_
      refine q_iload_n C (k4 := 2) 2 rfl (by decide +kernel) ?_
      refine q_isub C (by decide +kernel) ?_
      exact q_riS hm K rfl (by decide +kernel)
    · refine q_aload_n C (k4 := 0) 0 rfl (by decide +kernel) ?_
      refine q_iload C (i := 4) 4 rfl (by decide +kernel) ?_
      refine q_viP C Rm (As := [.int x4]) (rest := []) Y_X12_sideOf Yv_X12_sideOf ml_X12_284 (by decide) (by decide) hm (fun r9 e9 => c_X12_sideOf _ _ _ _ _ _ _ _ e9) rfl rfl (Nat.le_of_ble_eq_true rfl) (by decide +kernel) (fun r17 hm z18 => ?_)
      refine q_iload_n C (k4 := 2) 2 rfl (by decide +kernel) ?_
      refine q_icmp_ne C (off := 35) 87 hm (by decide +kernel) (by decide) (fun _ hm => ?_) (fun _ hm => ?_)
      · exact v_X12_send_87 C Rm K ih _ _ _ _ _ _ hm
      · refine q_aload_n C (k4 := 0) 0 rfl (by decide +kernel) ?_
        refine q_iload C (i := 4) 4 rfl (by decide +kernel) ?_
        refine q_viP C Rm (As := [.int x4]) (rest := []) Y_X12_placeOf Yv_X12_placeOf ml_X12_296 (by decide) (by decide) hm (fun r9 e9 => c_X12_placeOf _ _ _ _ _ _ _ _ e9) rfl rfl (Nat.le_of_ble_eq_true rfl) (by decide +kernel) (fun r19 hm z20 => ?_)
        refine q_aload_n C (k4 := 0) 0 rfl (by decide +kernel) ?_
        refine q_iload_n C (k4 := 1) 1 rfl (by decide +kernel) ?_
        refine q_viP C Rm (As := [.int x1]) (rest := [.int r19]) Y_X12_placeOf Yv_X12_placeOf ml_X12_296 (by decide) (by decide) hm (fun r9 e9 => c_X12_placeOf _ _ _ _ _ _ _ _ e9) rfl rfl (Nat.le_of_ble_eq_true rfl) (by decide +kernel) (fun r21 hm z22 => ?_)
        refine q_icmp_le C (off := 21) 87 hm (by decide +kernel) (by decide) (fun _ hm => ?_) (fun _ hm => ?_)
        · exact v_X12_send_87 C Rm K ih _ _ _ _ _ _ hm
        · refine q_aload_n C (k4 := 0) 0 rfl (by decide +kernel) ?_
          refine q_getn C fl_12_39 hm (by decide +kernel) (fun v23 hm => ?_)
          refine q_bipush C (n := 12) (v := 12) (by decide) (by decide +kernel) ?_
          refine q_iconst C (n := 5) (v := 5) (by decide) (by decide +kernel) ?_
          refine q_iload C (i := 4) 4 rfl (by decide +kernel) ?_
          refine q_imul C (by decide +kernel) ?_
          refine q_iadd C (by decide +kernel) ?_
          refine q_iconst C (n := 1) (v := 1) (by decide) (by decide +kernel) ?_
          refine q_iadd C (by decide +kernel) ?_
          refine q_dup2 C rfl rfl (by decide +kernel) ?_
          refine q_ir C hm (by decide +kernel) (fun v24 hm => ?_)
          refine q_iconst C (n := 1) (v := 1) (by decide) (by decide +kernel) ?_
          refine q_isub C (by decide +kernel) ?_
          refine q_iw C hm (by decide +kernel) (fun h25 hm => ?_)
          exact v_X12_send_87 C Rm K ih _ _ _ _ _ _ hm
def m_X12_send (h : q_H) (a0 : Nat) (a1 : Int32) : Option (Int32 × q_H) :=
  (q_ca 12 h a0 (m_X12_isPuller h a0 a1)).bind fun r1 =>
  if r1 = 0 then
    some ((-1 : Int32), h)
  else
    (q_ca 12 h a0 (m_X12_keepsAct h a0)).bind fun h4 =>
    (q_ca 12 h4 a0 (m_X12_sideOf h4 a0 a1)).bind fun r5 =>
    (q_ca 12 h4 a0 (m_X12_onesOn h4 a0 (((1 : Int32) - r5)))).bind fun r7 =>
    (m_X12_bits r7).bind fun r9 =>
    m_X12_send_34 q_fu h4 a0 a1 r5 r9 ((0 : Int32))
set_option maxRecDepth 20000 in
set_option maxHeartbeats 1000000 in
theorem c_X12_send (l : Launch) (base : Nat) (D : va_G) (tc : Nat → ClassId) (sz : Nat) (h : q_H) (a0 : Nat) (a1 : Int32) {r : Int32} {h' : q_H} (hm : m_X12_send h a0 a1 = some (r, h')) : q_M l yX12_send cX12_send 5 (some .int) 2 44 0 0 base D tc [.ref a0, .int a1] sz h (some (.int r)) sz h' := by
  refine q_starti (by decide) (Nat.le_of_ble_eq_true rfl) (fun Γ B K => ?_)
  obtain ⟨C, Rm, -⟩ := B
  have C : q_C Γ cX12_send RX12 := C
  show q_V Γ sz 0 0 h [(0, .ref a0), (1, .int a1)] [] 0
  unfold m_X12_send at hm
  refine q_aload_n C (k4 := 0) 0 rfl (by decide +kernel) ?_
  refine q_iload_n C (k4 := 1) 1 rfl (by decide +kernel) ?_
  refine q_viP C Rm (As := [.int a1]) (rest := []) Y_X12_isPuller Yv_X12_isPuller ml_X12_278 (by decide) (by decide) hm (fun r9 e9 => c_X12_isPuller _ _ _ _ _ _ _ _ e9) rfl rfl (Nat.le_of_ble_eq_true rfl) (by decide +kernel) (fun r1 hm z2 => ?_)
  refine q_if_ne C (off := 5) 10 hm (by decide +kernel) (by decide) (fun _ hm => ?_) (fun _ hm => ?_)
  · refine q_aload_n C (k4 := 0) 0 rfl (by decide +kernel) ?_
    refine q_vvS C Rm (As := []) (rest := []) Y_X12_keepsAct Yv_X12_keepsAct ml_X12_350 (by decide) (by decide) hm (fun h4 e9 => c_X12_keepsAct _ _ _ _ _ _ _ e9) rfl rfl (Nat.le_of_ble_eq_true rfl) (by decide +kernel) (fun h4 hm => ?_)
    refine q_aload_n C (k4 := 0) 0 rfl (by decide +kernel) ?_
    refine q_iload_n C (k4 := 1) 1 rfl (by decide +kernel) ?_
    refine q_viP C Rm (As := [.int a1]) (rest := []) Y_X12_sideOf Yv_X12_sideOf ml_X12_284 (by decide) (by decide) hm (fun r9 e9 => c_X12_sideOf _ _ _ _ _ _ _ _ e9) rfl rfl (Nat.le_of_ble_eq_true rfl) (by decide +kernel) (fun r5 hm z6 => ?_)
    refine q_istore_n C Rm.1 (k4 := 2) (i := 2) rfl (lv' := [(2, .int r5), (0, .ref a0), (1, .int a1)]) rfl (by decide) (by decide +kernel) ?_
    refine q_aload_n C (k4 := 0) 1 rfl (by decide +kernel) ?_
    refine q_iconst C (n := 1) (v := 1) (by decide) (by decide +kernel) ?_
    refine q_iload_n C (k4 := 2) 0 rfl (by decide +kernel) ?_
    refine q_isub C (by decide +kernel) ?_
    refine q_viP C Rm (As := [.int (((1 : Int32) - r5))]) (rest := []) Y_X12_onesOn Yv_X12_onesOn ml_X12_309 (by decide) (by decide) hm (fun r9 e9 => c_X12_onesOn _ _ _ _ _ _ _ _ e9) rfl rfl (Nat.le_of_ble_eq_true rfl) (by decide +kernel) (fun r7 hm z8 => ?_)
    refine q_siP C Rm (As := [.int r7]) (rest := []) Y_X12_bits Ys_X12_bits ml_X12_312 (by decide) (by decide) hm (fun r9 e9 => c_X12_bits _ _ _ _ _ _ _ e9) rfl rfl (Nat.le_of_ble_eq_true rfl) (by decide +kernel) (fun r9 hm z10 => ?_)
    refine q_istore_n C Rm.1 (k4 := 3) (i := 3) rfl (lv' := [(3, .int r9), (2, .int r5), (0, .ref a0), (1, .int a1)]) rfl (by decide) (by decide +kernel) ?_
    refine q_iconst C (n := 0) (v := 0) (by decide) (by decide +kernel) ?_
    refine q_istore C Rm.1 (i := 4) (lv' := [(4, .int ((0 : Int32))), (3, .int r9), (2, .int r5), (0, .ref a0), (1, .int a1)]) rfl (by decide) (by decide +kernel) ?_
    refine q_loc [3, 4, 2, 1, 0] rfl ?_
    exact v_X12_send_34 C Rm K _ _ _ _ _ _ _ hm
  · refine q_iconst C (n := (-1)) (v := (-1)) (by decide) (by decide +kernel) ?_
    exact q_riS hm K rfl (by decide +kernel)
def m_X12_front_79 (k30 : q_H → Nat → Int32 → Int32 → Int32 → Option (Int32 × q_H)) (h : q_H) (x0 : Nat) (x1 : Int32) (x2 : Int32) (x3 : Int32) : Option (Int32 × q_H) :=
  k30 h x0 x1 x2 ((x3 + (1 : Int32)))
set_option maxRecDepth 20000 in
set_option maxHeartbeats 1000000 in
theorem v_X12_front_79 {Γ : q_G} {sz : Nat} {r : Int32} {h' : q_H} (C : q_C Γ cX12_front RX12) (Rm : q_Rm Γ 4 1 21 0 0) {k30 : q_H → Nat → Int32 → Int32 → Int32 → Option (Int32 × q_H)} (K : narrow .int (.int r) = .int r → q_K Γ cX12_front .ireturn sz h' 0 0 [.int r]) (hk30 : ∀ (h : q_H) (x0 : Nat) (x1 : Int32) (x2 : Int32) (x3 : Int32), k30 h x0 x1 x2 x3 = some (r, h') → q_V Γ sz 0 0 h [(0, .ref x0), (1, .int x1), (2, .int x2), (3, .int x3)] [] 30) : ∀ (h : q_H) (x0 : Nat) (x1 : Int32) (x2 : Int32) (x3 : Int32), m_X12_front_79 k30 h x0 x1 x2 x3 = some (r, h') → q_V Γ sz 0 0 h [(0, .ref x0), (1, .int x1), (2, .int x2), (3, .int x3)] [] 79 := by
  intro h x0 x1 x2 x3 hm
  unfold m_X12_front_79 at hm
  refine q_iinc C Rm.1 (i := 3) (n := 1) (v := (x3 + (1 : Int32))) 3 rfl (q_inc _ (by decide)) (lv' := [(3, .int ((x3 + (1 : Int32)))), (0, .ref x0), (1, .int x1), (2, .int x2)]) rfl (by decide) (by decide +kernel) ?_
  refine q_goto C (off := -52) 30 (by decide +kernel) (by decide) ?_
  refine q_loc [1, 2, 3, 0] rfl ?_
  exact hk30 _ _ _ _ _ hm
def m_X12_front_30  : Nat → q_H → Nat → Int32 → Int32 → Int32 → Option (Int32 × q_H)
  | 0, _, _, _, _, _ => none
  | n + 1, h, x0, x1, x2, x3 =>
    (q_gn h x0 12 20).bind fun v9 =>
    (q_ai h v9 1 ((3 : Int32))).bind fun v10 =>
    if v10 ≤ x3 then
      (q_gn h x0 12 20).bind fun v11 =>
      (q_si h v11 1 ((((12 : Int32) + ((5 : Int32) * x1)) + (1 : Int32))) ((0 : Int32))).bind fun h12 =>
      some (x2, h12)
    else
      (q_ca 12 h x0 (m_X12_sideOf h x0 x3)).bind fun r13 =>
      (q_ca 12 h x0 (m_X12_sideOf h x0 x1)).bind fun r15 =>
      if r13 = r15 then
        (q_ca 12 h x0 (m_X12_placeOf h x0 x3)).bind fun r17 =>
        if x2 ≤ r17 then
          m_X12_front_79 (m_X12_front_30 n) h x0 x1 x2 x3
        else
          (q_gn h x0 12 20).bind fun v19 =>
          (q_ai h v19 1 ((((12 : Int32) + ((5 : Int32) * x3)) + (1 : Int32)))).bind fun v20 =>
          (q_si h v19 1 ((((12 : Int32) + ((5 : Int32) * x3)) + (1 : Int32))) ((v20 + (1 : Int32)))).bind fun h21 =>
          m_X12_front_79 (m_X12_front_30 n) h21 x0 x1 x2 x3
      else
        m_X12_front_79 (m_X12_front_30 n) h x0 x1 x2 x3
set_option maxRecDepth 20000 in
set_option maxHeartbeats 1000000 in
theorem v_X12_front_30 {Γ : q_G} {sz : Nat} {r : Int32} {h' : q_H} (C : q_C Γ cX12_front RX12) (Rm : q_Rm Γ 4 1 21 0 0)  (K : narrow .int (.int r) = .int r → q_K Γ cX12_front .ireturn sz h' 0 0 [.int r])  : ∀ (n : Nat) (h : q_H) (x0 : Nat) (x1 : Int32) (x2 : Int32) (x3 : Int32), m_X12_front_30 n h x0 x1 x2 x3 = some (r, h') → q_V Γ sz 0 0 h [(0, .ref x0), (1, .int x1), (2, .int x2), (3, .int x3)] [] 30 := by
  intro n
  induction n with
  | zero => intro h x0 x1 x2 x3 hm; cases hm
  | succ n ih =>
    intro h x0 x1 x2 x3 hm
    unfold m_X12_front_30 at hm
    refine q_iload_n C (k4 := 3) 3 rfl (by decide +kernel) ?_
    refine q_aload_n C (k4 := 0) 0 rfl (by decide +kernel) ?_
    refine q_getn C fl_12_39 hm (by decide +kernel) (fun v9 hm => ?_)
    refine q_iconst C (n := 3) (v := 3) (by decide) (by decide +kernel) ?_
    refine q_ir C hm (by decide +kernel) (fun v10 hm => ?_)
    refine q_icmp_ge C (off := 48) 85 hm (by decide +kernel) (by decide) (fun _ hm => ?_) (fun _ hm => ?_)
    · refine q_aload_n C (k4 := 0) 0 rfl (by decide +kernel) ?_
      refine q_getn C fl_12_39 hm (by decide +kernel) (fun v11 hm => ?_)
      refine q_bipush C (n := 12) (v := 12) (by decide) (by decide +kernel) ?_
      refine q_iconst C (n := 5) (v := 5) (by decide) (by decide +kernel) ?_
      refine q_iload_n C (k4 := 1) 1 rfl (by decide +kernel) ?_
      refine q_imul C (by decide +kernel) ?_
      refine q_iadd C (by decide +kernel) ?_
      refine q_iconst C (n := 1) (v := 1) (by decide) (by decide +kernel) ?_
      refine q_iadd C (by decide +kernel) ?_
      refine q_iconst C (n := 0) (v := 0) (by decide) (by decide +kernel) ?_
      refine q_iw C hm (by decide +kernel) (fun h12 hm => ?_)
      refine q_iload_n C (k4 := 2) 2 rfl (by decide +kernel) ?_
      exact q_riS hm K rfl (by decide +kernel)
    · refine q_aload_n C (k4 := 0) 0 rfl (by decide +kernel) ?_
      refine q_iload_n C (k4 := 3) 3 rfl (by decide +kernel) ?_
      refine q_viP C Rm (As := [.int x3]) (rest := []) Y_X12_sideOf Yv_X12_sideOf ml_X12_284 (by decide) (by decide) hm (fun r9 e9 => c_X12_sideOf _ _ _ _ _ _ _ _ e9) rfl rfl (Nat.le_of_ble_eq_true rfl) (by decide +kernel) (fun r13 hm z14 => ?_)
      refine q_aload_n C (k4 := 0) 0 rfl (by decide +kernel) ?_
      refine q_iload_n C (k4 := 1) 1 rfl (by decide +kernel) ?_
      refine q_viP C Rm (As := [.int x1]) (rest := [.int r13]) Y_X12_sideOf Yv_X12_sideOf ml_X12_284 (by decide) (by decide) hm (fun r9 e9 => c_X12_sideOf _ _ _ _ _ _ _ _ e9) rfl rfl (Nat.le_of_ble_eq_true rfl) (by decide +kernel) (fun r15 hm z16 => ?_)
      refine q_icmp_ne C (off := 29) 79 hm (by decide +kernel) (by decide) (fun _ hm => ?_) (fun _ hm => ?_)
      · exact v_X12_front_79 C Rm K ih _ _ _ _ _ hm
      · refine q_aload_n C (k4 := 0) 0 rfl (by decide +kernel) ?_
        refine q_iload_n C (k4 := 3) 3 rfl (by decide +kernel) ?_
        refine q_viP C Rm (As := [.int x3]) (rest := []) Y_X12_placeOf Yv_X12_placeOf ml_X12_296 (by decide) (by decide) hm (fun r9 e9 => c_X12_placeOf _ _ _ _ _ _ _ _ e9) rfl rfl (Nat.le_of_ble_eq_true rfl) (by decide +kernel) (fun r17 hm z18 => ?_)
        refine q_iload_n C (k4 := 2) 2 rfl (by decide +kernel) ?_
        refine q_icmp_ge C (off := 20) 79 hm (by decide +kernel) (by decide) (fun _ hm => ?_) (fun _ hm => ?_)
        · exact v_X12_front_79 C Rm K ih _ _ _ _ _ hm
        · refine q_aload_n C (k4 := 0) 0 rfl (by decide +kernel) ?_
          refine q_getn C fl_12_39 hm (by decide +kernel) (fun v19 hm => ?_)
          refine q_bipush C (n := 12) (v := 12) (by decide) (by decide +kernel) ?_
          refine q_iconst C (n := 5) (v := 5) (by decide) (by decide +kernel) ?_
          refine q_iload_n C (k4 := 3) 3 rfl (by decide +kernel) ?_
          refine q_imul C (by decide +kernel) ?_
          refine q_iadd C (by decide +kernel) ?_
          refine q_iconst C (n := 1) (v := 1) (by decide) (by decide +kernel) ?_
          refine q_iadd C (by decide +kernel) ?_
          refine q_dup2 C rfl rfl (by decide +kernel) ?_
          refine q_ir C hm (by decide +kernel) (fun v20 hm => ?_)
          refine q_iconst C (n := 1) (v := 1) (by decide) (by decide +kernel) ?_
          refine q_iadd C (by decide +kernel) ?_
          refine q_iw C hm (by decide +kernel) (fun h21 hm => ?_)
          exact v_X12_front_79 C Rm K ih _ _ _ _ _ hm
def m_X12_front (h : q_H) (a0 : Nat) (a1 : Int32) : Option (Int32 × q_H) :=
  (q_ca 12 h a0 (m_X12_isPuller h a0 a1)).bind fun r1 =>
  if r1 = 0 then
    some ((-1 : Int32), h)
  else
    (q_ca 12 h a0 (m_X12_placeOf h a0 a1)).bind fun r3 =>
    if r3 = 0 then
      some ((-1 : Int32), h)
    else
      (q_ca 12 h a0 (m_X12_keepsAct h a0)).bind fun h6 =>
      (q_ca 12 h6 a0 (m_X12_placeOf h6 a0 a1)).bind fun r7 =>
      m_X12_front_30 q_fu h6 a0 a1 r7 ((0 : Int32))
set_option maxRecDepth 20000 in
set_option maxHeartbeats 1000000 in
theorem c_X12_front (l : Launch) (base : Nat) (D : va_G) (tc : Nat → ClassId) (sz : Nat) (h : q_H) (a0 : Nat) (a1 : Int32) {r : Int32} {h' : q_H} (hm : m_X12_front h a0 a1 = some (r, h')) : q_M l yX12_front cX12_front 4 (some .int) 1 21 0 0 base D tc [.ref a0, .int a1] sz h (some (.int r)) sz h' := by
  refine q_starti (by decide) (Nat.le_of_ble_eq_true rfl) (fun Γ B K => ?_)
  obtain ⟨C, Rm, -⟩ := B
  have C : q_C Γ cX12_front RX12 := C
  show q_V Γ sz 0 0 h [(0, .ref a0), (1, .int a1)] [] 0
  unfold m_X12_front at hm
  refine q_aload_n C (k4 := 0) 0 rfl (by decide +kernel) ?_
  refine q_iload_n C (k4 := 1) 1 rfl (by decide +kernel) ?_
  refine q_viP C Rm (As := [.int a1]) (rest := []) Y_X12_isPuller Yv_X12_isPuller ml_X12_278 (by decide) (by decide) hm (fun r9 e9 => c_X12_isPuller _ _ _ _ _ _ _ _ e9) rfl rfl (Nat.le_of_ble_eq_true rfl) (by decide +kernel) (fun r1 hm z2 => ?_)
  refine q_if_eq C (off := 11) 16 hm (by decide +kernel) (by decide) (fun _ hm => ?_) (fun _ hm => ?_)
  · refine q_iconst C (n := (-1)) (v := (-1)) (by decide) (by decide +kernel) ?_
    exact q_riS hm K rfl (by decide +kernel)
  · refine q_aload_n C (k4 := 0) 0 rfl (by decide +kernel) ?_
    refine q_iload_n C (k4 := 1) 1 rfl (by decide +kernel) ?_
    refine q_viP C Rm (As := [.int a1]) (rest := []) Y_X12_placeOf Yv_X12_placeOf ml_X12_296 (by decide) (by decide) hm (fun r9 e9 => c_X12_placeOf _ _ _ _ _ _ _ _ e9) rfl rfl (Nat.le_of_ble_eq_true rfl) (by decide +kernel) (fun r3 hm z4 => ?_)
    refine q_if_ne C (off := 5) 18 hm (by decide +kernel) (by decide) (fun _ hm => ?_) (fun _ hm => ?_)
    · refine q_aload_n C (k4 := 0) 0 rfl (by decide +kernel) ?_
      refine q_vvS C Rm (As := []) (rest := []) Y_X12_keepsAct Yv_X12_keepsAct ml_X12_350 (by decide) (by decide) hm (fun h6 e9 => c_X12_keepsAct _ _ _ _ _ _ _ e9) rfl rfl (Nat.le_of_ble_eq_true rfl) (by decide +kernel) (fun h6 hm => ?_)
      refine q_aload_n C (k4 := 0) 0 rfl (by decide +kernel) ?_
      refine q_iload_n C (k4 := 1) 1 rfl (by decide +kernel) ?_
      refine q_viP C Rm (As := [.int a1]) (rest := []) Y_X12_placeOf Yv_X12_placeOf ml_X12_296 (by decide) (by decide) hm (fun r9 e9 => c_X12_placeOf _ _ _ _ _ _ _ _ e9) rfl rfl (Nat.le_of_ble_eq_true rfl) (by decide +kernel) (fun r7 hm z8 => ?_)
      refine q_istore_n C Rm.1 (k4 := 2) (i := 2) rfl (lv' := [(2, .int r7), (0, .ref a0), (1, .int a1)]) rfl (by decide) (by decide +kernel) ?_
      refine q_iconst C (n := 0) (v := 0) (by decide) (by decide +kernel) ?_
      refine q_istore_n C Rm.1 (k4 := 3) (i := 3) rfl (lv' := [(3, .int ((0 : Int32))), (2, .int r7), (0, .ref a0), (1, .int a1)]) rfl (by decide) (by decide +kernel) ?_
      refine q_loc [2, 3, 1, 0] rfl ?_
      exact v_X12_front_30 C Rm K _ _ _ _ _ _ hm
    · refine q_iconst C (n := (-1)) (v := (-1)) (by decide) (by decide +kernel) ?_
      exact q_riS hm K rfl (by decide +kernel)
def m_X12_breath (h : q_H) (a0 : Nat) (a1 : Int32) (a2 : Int32) : Option (Int32 × q_H) :=
  (q_ca 12 h a0 (m_X12_isPuller h a0 a1)).bind fun r1 =>
  if r1 = 0 then
    some ((-1 : Int32), h)
  else
    (m_X12_in a2.toInt64 ((1 : Int64)) ((9 : Int64))).bind fun r3 =>
    if r3 = 0 then
      some ((-1 : Int32), h)
    else
      (q_ca 12 h a0 (m_X12_keepsAct h a0)).bind fun h6 =>
      (q_gn h6 a0 12 20).bind fun v7 =>
      (q_ca 12 h6 a0 (m_X12_windOf h6 a0 a1)).bind fun r8 =>
      (m_X12_within ((r8 + a2)) ((0 : Int32)) ((60 : Int32))).bind fun r10 =>
      (q_si h6 v7 1 ((((12 : Int32) + ((5 : Int32) * a1)) + (2 : Int32))) r10).bind fun h12 =>
      (q_ca 12 h12 a0 (m_X12_windOf h12 a0 a1)).bind fun r13 =>
      some (r13, h12)
set_option maxRecDepth 20000 in
set_option maxHeartbeats 1000000 in
theorem c_X12_breath (l : Launch) (base : Nat) (D : va_G) (tc : Nat → ClassId) (sz : Nat) (h : q_H) (a0 : Nat) (a1 : Int32) (a2 : Int32) {r : Int32} {h' : q_H} (hm : m_X12_breath h a0 a1 a2 = some (r, h')) : q_M l yX12_breath cX12_breath 3 (some .int) 1 25 0 0 base D tc [.ref a0, .int a1, .int a2] sz h (some (.int r)) sz h' := by
  refine q_starti (by decide) (Nat.le_of_ble_eq_true rfl) (fun Γ B K => ?_)
  obtain ⟨C, Rm, -⟩ := B
  have C : q_C Γ cX12_breath RX12 := C
  show q_V Γ sz 0 0 h [(0, .ref a0), (1, .int a1), (2, .int a2)] [] 0
  unfold m_X12_breath at hm
  refine q_aload_n C (k4 := 0) 0 rfl (by decide +kernel) ?_
  refine q_iload_n C (k4 := 1) 1 rfl (by decide +kernel) ?_
  refine q_viP C Rm (As := [.int a1]) (rest := []) Y_X12_isPuller Yv_X12_isPuller ml_X12_278 (by decide) (by decide) hm (fun r9 e9 => c_X12_isPuller _ _ _ _ _ _ _ _ e9) rfl rfl (Nat.le_of_ble_eq_true rfl) (by decide +kernel) (fun r1 hm z2 => ?_)
  refine q_if_eq C (off := 15) 20 hm (by decide +kernel) (by decide) (fun _ hm => ?_) (fun _ hm => ?_)
  · refine q_iconst C (n := (-1)) (v := (-1)) (by decide) (by decide +kernel) ?_
    exact q_riS hm K rfl (by decide +kernel)
  · refine q_iload_n C (k4 := 2) 2 rfl (by decide +kernel) ?_
    refine q_i2l C (by decide +kernel) ?_
    refine q_lconst C (n := 1) (v := 1) (by decide) (by decide +kernel) ?_
    refine q_ldc2 C (idx := 356) (v := 9) (q_m7 67 rfl rfl) (by decide +kernel) ?_
    refine q_siP C Rm (As := [.long a2.toInt64, .long ((1 : Int64)), .long ((9 : Int64))]) (rest := []) Y_X12_in Ys_X12_in ml_X12_121 (by decide) (by decide) hm (fun r9 e9 => c_X12_in _ _ _ _ _ _ _ _ _ e9) rfl rfl (Nat.le_of_ble_eq_true rfl) (by decide +kernel) (fun r3 hm z4 => ?_)
    refine q_if_ne C (off := 5) 22 hm (by decide +kernel) (by decide) (fun _ hm => ?_) (fun _ hm => ?_)
    · refine q_aload_n C (k4 := 0) 0 rfl (by decide +kernel) ?_
      refine q_vvS C Rm (As := []) (rest := []) Y_X12_keepsAct Yv_X12_keepsAct ml_X12_350 (by decide) (by decide) hm (fun h6 e9 => c_X12_keepsAct _ _ _ _ _ _ _ e9) rfl rfl (Nat.le_of_ble_eq_true rfl) (by decide +kernel) (fun h6 hm => ?_)
      refine q_aload_n C (k4 := 0) 0 rfl (by decide +kernel) ?_
      refine q_getn C fl_12_39 hm (by decide +kernel) (fun v7 hm => ?_)
      refine q_bipush C (n := 12) (v := 12) (by decide) (by decide +kernel) ?_
      refine q_iconst C (n := 5) (v := 5) (by decide) (by decide +kernel) ?_
      refine q_iload_n C (k4 := 1) 1 rfl (by decide +kernel) ?_
      refine q_imul C (by decide +kernel) ?_
      refine q_iadd C (by decide +kernel) ?_
      refine q_iconst C (n := 2) (v := 2) (by decide) (by decide +kernel) ?_
      refine q_iadd C (by decide +kernel) ?_
      refine q_aload_n C (k4 := 0) 0 rfl (by decide +kernel) ?_
      refine q_iload_n C (k4 := 1) 1 rfl (by decide +kernel) ?_
      refine q_viP C Rm (As := [.int a1]) (rest := [.int ((((12 : Int32) + ((5 : Int32) * a1)) + (2 : Int32))), .ref v7]) Y_X12_windOf Yv_X12_windOf ml_X12_293 (by decide) (by decide) hm (fun r9 e9 => c_X12_windOf _ _ _ _ _ _ _ _ e9) rfl rfl (Nat.le_of_ble_eq_true rfl) (by decide +kernel) (fun r8 hm z9 => ?_)
      refine q_iload_n C (k4 := 2) 2 rfl (by decide +kernel) ?_
      refine q_iadd C (by decide +kernel) ?_
      refine q_iconst C (n := 0) (v := 0) (by decide) (by decide +kernel) ?_
      refine q_bipush C (n := 60) (v := 60) (by decide) (by decide +kernel) ?_
      refine q_siP C Rm (As := [.int ((r8 + a2)), .int ((0 : Int32)), .int ((60 : Int32))]) (rest := [.int ((((12 : Int32) + ((5 : Int32) * a1)) + (2 : Int32))), .ref v7]) Y_X12_within Ys_X12_within ml_X12_327 (by decide) (by decide) hm (fun r9 e9 => c_X12_within _ _ _ _ _ _ _ _ _ e9) rfl rfl (Nat.le_of_ble_eq_true rfl) (by decide +kernel) (fun r10 hm z11 => ?_)
      refine q_iw C hm (by decide +kernel) (fun h12 hm => ?_)
      refine q_aload_n C (k4 := 0) 0 rfl (by decide +kernel) ?_
      refine q_iload_n C (k4 := 1) 1 rfl (by decide +kernel) ?_
      refine q_viP C Rm (As := [.int a1]) (rest := []) Y_X12_windOf Yv_X12_windOf ml_X12_293 (by decide) (by decide) hm (fun r9 e9 => c_X12_windOf _ _ _ _ _ _ _ _ e9) rfl rfl (Nat.le_of_ble_eq_true rfl) (by decide +kernel) (fun r13 hm z14 => ?_)
      exact q_riS hm K rfl (by decide +kernel)
    · refine q_iconst C (n := (-1)) (v := (-1)) (by decide) (by decide +kernel) ?_
      exact q_riS hm K rfl (by decide +kernel)
