def m_X12_set (h : q_H) (a0 : Nat) (a1 : Int32) : Option (Int32 × q_H) :=
  (q_ca 12 h a0 (m_X12_isRope h a0)).bind fun r1 =>
  if r1 = 0 then
    some ((-1 : Int32), h)
  else
    (q_gn h a0 12 20).bind fun v3 =>
    (q_ai h v3 1 ((1 : Int32))).bind fun v4 =>
    (q_gn h a0 12 20).bind fun v5 =>
    (q_ai h v5 1 ((1 : Int32))).bind fun v6 =>
    (m_X12_in (((a1 - (100 : Int32))).toInt64) ((((1 : Int32) - v4)).toInt64) (((v6 - (1 : Int32))).toInt64)).bind fun r7 =>
    if r7 = 0 then
      some ((-1 : Int32), h)
    else
      (q_gn h a0 12 20).bind fun v9 =>
      (q_ai h v9 1 ((11 : Int32))).bind fun v10 =>
      if (a1 - (100 : Int32)) = v10 then
        some ((-1 : Int32), h)
      else
        (q_ca 12 h a0 (m_X12_keepsAct h a0)).bind fun h12 =>
        (q_ca 12 h12 a0 (m_X12_ribbon h12 a0)).bind fun r13 =>
        (q_gn h12 a0 12 20).bind fun v15 =>
        (q_si h12 v15 1 ((11 : Int32)) ((a1 - (100 : Int32)))).bind fun h16 =>
        some (r13, h16)
set_option maxRecDepth 20000 in
set_option maxHeartbeats 1000000 in
theorem c_X12_set (l : Launch) (base : Nat) (D : va_G) (tc : Nat → ClassId) (sz : Nat) (h : q_H) (a0 : Nat) (a1 : Int32) {r : Int32} {h' : q_H} (hm : m_X12_set h a0 a1 = some (r, h')) : q_M l yX12_set cX12_set 4 (some .int) 2 40 0 0 base D tc [.ref a0, .int a1] sz h (some (.int r)) sz h' := by
  refine q_starti (by decide) (Nat.le_of_ble_eq_true rfl) (fun Γ B K => ?_)
  obtain ⟨C, Rm, -⟩ := B
  have C : q_C Γ cX12_set RX12 := C
  show q_V Γ sz 0 0 h [(0, .ref a0), (1, .int a1)] [] 0
  unfold m_X12_set at hm
  refine q_iload_n C (k4 := 1) 1 rfl (by decide +kernel) ?_
  refine q_bipush C (n := 100) (v := 100) (by decide) (by decide +kernel) ?_
  refine q_isub C (by decide +kernel) ?_
  refine q_istore_n C Rm.1 (k4 := 2) (i := 2) rfl (lv' := [(2, .int ((a1 - (100 : Int32)))), (0, .ref a0), (1, .int a1)]) rfl (by decide) (by decide +kernel) ?_
  refine q_aload_n C (k4 := 0) 1 rfl (by decide +kernel) ?_
  refine q_viP C Rm (As := []) (rest := []) Y_X12_isRope Yv_X12_isRope ml_X12_299 (by decide) (by decide) hm (fun r9 e9 => c_X12_isRope _ _ _ _ _ _ _ e9) rfl rfl (Nat.le_of_ble_eq_true rfl) (by decide +kernel) (fun r1 hm z2 => ?_)
  refine q_if_eq C (off := 40) 49 hm (by decide +kernel) (by decide) (fun _ hm => ?_) (fun _ hm => ?_)
  · refine q_iconst C (n := (-1)) (v := (-1)) (by decide) (by decide +kernel) ?_
    exact q_riS hm K rfl (by decide +kernel)
  · refine q_iload_n C (k4 := 2) 0 rfl (by decide +kernel) ?_
    refine q_i2l C (by decide +kernel) ?_
    refine q_iconst C (n := 1) (v := 1) (by decide) (by decide +kernel) ?_
    refine q_aload_n C (k4 := 0) 1 rfl (by decide +kernel) ?_
    refine q_getn C fl_12_39 hm (by decide +kernel) (fun v3 hm => ?_)
    refine q_iconst C (n := 1) (v := 1) (by decide) (by decide +kernel) ?_
    refine q_ir C hm (by decide +kernel) (fun v4 hm => ?_)
    refine q_isub C (by decide +kernel) ?_
    refine q_i2l C (by decide +kernel) ?_
    refine q_aload_n C (k4 := 0) 1 rfl (by decide +kernel) ?_
    refine q_getn C fl_12_39 hm (by decide +kernel) (fun v5 hm => ?_)
    refine q_iconst C (n := 1) (v := 1) (by decide) (by decide +kernel) ?_
    refine q_ir C hm (by decide +kernel) (fun v6 hm => ?_)
    refine q_iconst C (n := 1) (v := 1) (by decide) (by decide +kernel) ?_
    refine q_isub C (by decide +kernel) ?_
    refine q_i2l C (by decide +kernel) ?_
    refine q_siP C Rm (As := [.long (((a1 - (100 : Int32))).toInt64), .long ((((1 : Int32) - v4)).toInt64), .long (((v6 - (1 : Int32))).toInt64)]) (rest := []) Y_X12_in Ys_X12_in ml_X12_121 (by decide) (by decide) hm (fun r9 e9 => c_X12_in _ _ _ _ _ _ _ _ _ e9) rfl rfl (Nat.le_of_ble_eq_true rfl) (by decide +kernel) (fun r7 hm z8 => ?_)
    refine q_if_eq C (off := 14) 49 hm (by decide +kernel) (by decide) (fun _ hm => ?_) (fun _ hm => ?_)
    · refine q_iconst C (n := (-1)) (v := (-1)) (by decide) (by decide +kernel) ?_
      exact q_riS hm K rfl (by decide +kernel)
    · refine q_iload_n C (k4 := 2) 0 rfl (by decide +kernel) ?_
      refine q_aload_n C (k4 := 0) 1 rfl (by decide +kernel) ?_
      refine q_getn C fl_12_39 hm (by decide +kernel) (fun v9 hm => ?_)
      refine q_bipush C (n := 11) (v := 11) (by decide) (by decide +kernel) ?_
      refine q_ir C hm (by decide +kernel) (fun v10 hm => ?_)
      refine q_icmp_ne C (off := 5) 51 hm (by decide +kernel) (by decide) (fun _ hm => ?_) (fun _ hm => ?_)
      · refine q_aload_n C (k4 := 0) 1 rfl (by decide +kernel) ?_
        refine q_vvS C Rm (As := []) (rest := []) Y_X12_keepsAct Yv_X12_keepsAct ml_X12_350 (by decide) (by decide) hm (fun h12 e9 => c_X12_keepsAct _ _ _ _ _ _ _ e9) rfl rfl (Nat.le_of_ble_eq_true rfl) (by decide +kernel) (fun h12 hm => ?_)
        refine q_aload_n C (k4 := 0) 1 rfl (by decide +kernel) ?_
        refine q_viP C Rm (As := []) (rest := []) Y_X12_ribbon Yv_X12_ribbon ml_X12_353 (by decide) (by decide) hm (fun r9 e9 => c_X12_ribbon _ _ _ _ _ _ _ e9) rfl rfl (Nat.le_of_ble_eq_true rfl) (by decide +kernel) (fun r13 hm z14 => ?_)
        refine q_istore_n C Rm.1 (k4 := 3) (i := 3) rfl (lv' := [(3, .int r13), (2, .int ((a1 - (100 : Int32)))), (0, .ref a0), (1, .int a1)]) rfl (by decide) (by decide +kernel) ?_
        refine q_aload_n C (k4 := 0) 2 rfl (by decide +kernel) ?_
        refine q_getn C fl_12_39 hm (by decide +kernel) (fun v15 hm => ?_)
        refine q_bipush C (n := 11) (v := 11) (by decide) (by decide +kernel) ?_
        refine q_iload_n C (k4 := 2) 1 rfl (by decide +kernel) ?_
        refine q_iw C hm (by decide +kernel) (fun h16 hm => ?_)
        refine q_iload_n C (k4 := 3) 0 rfl (by decide +kernel) ?_
        exact q_riS hm K rfl (by decide +kernel)
      · refine q_iconst C (n := (-1)) (v := (-1)) (by decide) (by decide +kernel) ?_
        exact q_riS hm K rfl (by decide +kernel)
def m_X12_strongOf_36 (k4 : q_H → Nat → Int32 → Int32 → Int32 → Option Int32) (h0 : q_H) (x0 : Nat) (x1 : Int32) (x3 : Int32) (s0 : Int32) (s1 : Int32) : Option Int32 :=
  k4 h0 x0 x1 ((s1 + s0)) ((x3 + (1 : Int32)))
set_option maxRecDepth 20000 in
set_option maxHeartbeats 1000000 in
theorem v_X12_strongOf_36 {Γ : q_G} {sz : Nat} {h0 : q_H} {r : Int32} (C : q_C Γ cX12_strongOf RX12) (Rm : q_Rm Γ 4 1 21 0 0) {k4 : q_H → Nat → Int32 → Int32 → Int32 → Option Int32} (K : narrow .int (.int r) = .int r → q_K Γ cX12_strongOf .ireturn sz h0 0 0 [.int r]) (hk4 : ∀ (x0 : Nat) (x1 : Int32) (x2 : Int32) (x3 : Int32), k4 h0 x0 x1 x2 x3 = some r → q_V Γ sz 0 0 h0 [(0, .ref x0), (1, .int x1), (2, .int x2), (3, .int x3)] [] 4) : ∀ (x0 : Nat) (x1 : Int32) (x3 : Int32) (s0 : Int32) (s1 : Int32), m_X12_strongOf_36 k4 h0 x0 x1 x3 s0 s1 = some r → q_V Γ sz 0 0 h0 [(0, .ref x0), (1, .int x1), (3, .int x3)] [.int s0, .int s1] 36 := by
  intro x0 x1 x3 s0 s1 hm
  unfold m_X12_strongOf_36 at hm
  refine q_iadd C (by decide +kernel) ?_
  refine q_istore_n C Rm.1 (k4 := 2) (i := 2) rfl (lv' := [(2, .int ((s1 + s0))), (0, .ref x0), (1, .int x1), (3, .int x3)]) rfl (by decide) (by decide +kernel) ?_
  refine q_iinc C Rm.1 (i := 3) (n := 1) (v := (x3 + (1 : Int32))) 3 rfl (q_inc _ (by decide)) (lv' := [(3, .int ((x3 + (1 : Int32)))), (2, .int ((s1 + s0))), (0, .ref x0), (1, .int x1)]) rfl (by decide) (by decide +kernel) ?_
  refine q_goto C (off := -37) 4 (by decide +kernel) (by decide) ?_
  refine q_loc [2, 3, 1, 0] rfl ?_
  exact hk4 _ _ _ _ hm
def m_X12_strongOf_4  : Nat → q_H → Nat → Int32 → Int32 → Int32 → Option Int32
  | 0, _, _, _, _, _ => none
  | n + 1, h0, x0, x1, x2, x3 =>
    (q_gn h0 x0 12 20).bind fun v1 =>
    (q_ai h0 v1 1 ((3 : Int32))).bind fun v2 =>
    if v2 ≤ x3 then
      some x2
    else
      (m_X12_isOf x1 x3).bind fun r3 =>
      if r3 = 0 then
        m_X12_strongOf_36 (m_X12_strongOf_4 n) h0 x0 x1 x3 ((0 : Int32)) x2
      else
        (q_gn h0 x0 12 20).bind fun v5 =>
        (q_ai h0 v5 1 (((52 : Int32) + x3))).bind fun v6 =>
        m_X12_strongOf_36 (m_X12_strongOf_4 n) h0 x0 x1 x3 v6 x2
set_option maxRecDepth 20000 in
set_option maxHeartbeats 1000000 in
theorem v_X12_strongOf_4 {Γ : q_G} {sz : Nat} {h0 : q_H} {r : Int32} (C : q_C Γ cX12_strongOf RX12) (Rm : q_Rm Γ 4 1 21 0 0)  (K : narrow .int (.int r) = .int r → q_K Γ cX12_strongOf .ireturn sz h0 0 0 [.int r])  : ∀ (n : Nat) (x0 : Nat) (x1 : Int32) (x2 : Int32) (x3 : Int32), m_X12_strongOf_4 n h0 x0 x1 x2 x3 = some r → q_V Γ sz 0 0 h0 [(0, .ref x0), (1, .int x1), (2, .int x2), (3, .int x3)] [] 4 := by
  intro n
  induction n with
  | zero => intro x0 x1 x2 x3 hm; cases hm
  | succ n ih =>
    intro x0 x1 x2 x3 hm
    unfold m_X12_strongOf_4 at hm
    refine q_iload_n C (k4 := 3) 3 rfl (by decide +kernel) ?_
    refine q_aload_n C (k4 := 0) 0 rfl (by decide +kernel) ?_
    refine q_getn C fl_12_39 hm (by decide +kernel) (fun v1 hm => ?_)
    refine q_iconst C (n := 3) (v := 3) (by decide) (by decide +kernel) ?_
    refine q_ir C hm (by decide +kernel) (fun v2 hm => ?_)
    refine q_icmp_ge C (off := 33) 44 hm (by decide +kernel) (by decide) (fun _ hm => ?_) (fun _ hm => ?_)
    · refine q_iload_n C (k4 := 2) 2 rfl (by decide +kernel) ?_
      exact q_riP hm K rfl (by decide +kernel)
    · refine q_iload_n C (k4 := 2) 2 rfl (by decide +kernel) ?_
      refine q_iload_n C (k4 := 1) 1 rfl (by decide +kernel) ?_
      refine q_iload_n C (k4 := 3) 3 rfl (by decide +kernel) ?_
      refine q_siP C Rm (As := [.int x1, .int x3]) (rest := [.int x2]) Y_X12_isOf Ys_X12_isOf ml_X12_358 (by decide) (by decide) hm (fun r9 e9 => c_X12_isOf _ _ _ _ _ _ _ _ e9) rfl rfl (Nat.le_of_ble_eq_true rfl) (by decide +kernel) (fun r3 hm z4 => ?_)
      refine q_if_eq C (off := 15) 35 hm (by decide +kernel) (by decide) (fun _ hm => ?_) (fun _ hm => ?_)
      · refine q_iconst C (n := 0) (v := 0) (by decide) (by decide +kernel) ?_
        refine q_loc [0, 1, 3] rfl ?_
        exact v_X12_strongOf_36 C Rm K ih _ _ _ _ _ hm
      · refine q_aload_n C (k4 := 0) 0 rfl (by decide +kernel) ?_
        refine q_getn C fl_12_39 hm (by decide +kernel) (fun v5 hm => ?_)
        refine q_bipush C (n := 52) (v := 52) (by decide) (by decide +kernel) ?_
        refine q_iload_n C (k4 := 3) 3 rfl (by decide +kernel) ?_
        refine q_iadd C (by decide +kernel) ?_
        refine q_ir C hm (by decide +kernel) (fun v6 hm => ?_)
        refine q_goto C (off := 4) 36 (by decide +kernel) (by decide) ?_
        refine q_loc [0, 1, 3] rfl ?_
        exact v_X12_strongOf_36 C Rm K ih _ _ _ _ _ hm
def m_X12_strongOf (h0 : q_H) (a0 : Nat) (a1 : Int32) : Option Int32 :=
  m_X12_strongOf_4 q_fu h0 a0 a1 ((0 : Int32)) ((0 : Int32))
set_option maxRecDepth 20000 in
set_option maxHeartbeats 1000000 in
theorem c_X12_strongOf (l : Launch) (base : Nat) (D : va_G) (tc : Nat → ClassId) (sz : Nat) (h0 : q_H) (a0 : Nat) (a1 : Int32) {r : Int32} (hm : m_X12_strongOf h0 a0 a1 = some r) : q_M l yX12_strongOf cX12_strongOf 4 (some .int) 1 21 0 0 base D tc [.ref a0, .int a1] sz h0 (some (.int r)) sz h0 := by
  refine q_starti (by decide) (Nat.le_of_ble_eq_true rfl) (fun Γ B K => ?_)
  obtain ⟨C, Rm, -⟩ := B
  have C : q_C Γ cX12_strongOf RX12 := C
  show q_V Γ sz 0 0 h0 [(0, .ref a0), (1, .int a1)] [] 0
  unfold m_X12_strongOf at hm
  refine q_iconst C (n := 0) (v := 0) (by decide) (by decide +kernel) ?_
  refine q_istore_n C Rm.1 (k4 := 2) (i := 2) rfl (lv' := [(2, .int ((0 : Int32))), (0, .ref a0), (1, .int a1)]) rfl (by decide) (by decide +kernel) ?_
  refine q_iconst C (n := 0) (v := 0) (by decide) (by decide +kernel) ?_
  refine q_istore_n C Rm.1 (k4 := 3) (i := 3) rfl (lv' := [(3, .int ((0 : Int32))), (2, .int ((0 : Int32))), (0, .ref a0), (1, .int a1)]) rfl (by decide) (by decide +kernel) ?_
  refine q_loc [2, 3, 1, 0] rfl ?_
  exact v_X12_strongOf_4 C Rm K _ _ _ _ _ hm
def m_X12_everybody (h0 : q_H) (a0 : Nat) : Option Int32 :=
  (q_gn h0 a0 12 20).bind fun v1 =>
  (q_ai h0 v1 1 ((3 : Int32))).bind fun v2 =>
  some ((((1 : Int32) <<< (v2 &&& 31)) - (1 : Int32)))
set_option maxRecDepth 20000 in
set_option maxHeartbeats 1000000 in
theorem c_X12_everybody (l : Launch) (base : Nat) (D : va_G) (tc : Nat → ClassId) (sz : Nat) (h0 : q_H) (a0 : Nat) {r : Int32} (hm : m_X12_everybody h0 a0 = some r) : q_M l yX12_everybody cX12_everybody 1 (some .int) 0 0 0 0 base D tc [.ref a0] sz h0 (some (.int r)) sz h0 := by
  refine q_starti (by decide) (Nat.le_of_ble_eq_true rfl) (fun Γ B K => ?_)
  obtain ⟨C, Rm, -⟩ := B
  have C : q_C Γ cX12_everybody RX12 := C
  show q_V Γ sz 0 0 h0 [(0, .ref a0)] [] 0
  unfold m_X12_everybody at hm
  refine q_iconst C (n := 1) (v := 1) (by decide) (by decide +kernel) ?_
  refine q_aload_n C (k4 := 0) 0 rfl (by decide +kernel) ?_
  refine q_getn C fl_12_39 hm (by decide +kernel) (fun v1 hm => ?_)
  refine q_iconst C (n := 3) (v := 3) (by decide) (by decide +kernel) ?_
  refine q_ir C hm (by decide +kernel) (fun v2 hm => ?_)
  refine q_ishl C (by decide +kernel) ?_
  refine q_iconst C (n := 1) (v := 1) (by decide) (by decide +kernel) ?_
  refine q_isub C (by decide +kernel) ?_
  exact q_riP hm K rfl (by decide +kernel)
def m_X12_outweighs (h0 : q_H) (a0 : Nat) (a1 : Int32) : Option Int32 :=
  (q_ca 12 h0 a0 (m_X12_strongOf h0 a0 a1)).bind fun r1 =>
  (q_ca 12 h0 a0 (m_X12_everybody h0 a0)).bind fun r3 =>
  (q_ca 12 h0 a0 (m_X12_strongOf h0 a0 ((r3 &&& (a1 ^^^ (-1 : Int32)))))).bind fun r5 =>
  if r1 ≤ r5 then
    some ((0 : Int32))
  else
    some ((1 : Int32))
set_option maxRecDepth 20000 in
set_option maxHeartbeats 1000000 in
theorem c_X12_outweighs (l : Launch) (base : Nat) (D : va_G) (tc : Nat → ClassId) (sz : Nat) (h0 : q_H) (a0 : Nat) (a1 : Int32) {r : Int32} (hm : m_X12_outweighs h0 a0 a1 = some r) : q_M l yX12_outweighs cX12_outweighs 2 (some .boolean) 2 44 0 0 base D tc [.ref a0, .int a1] sz h0 (some (.int r)) sz h0 := by
  refine q_starti (by decide) (Nat.le_of_ble_eq_true rfl) (fun Γ B K => ?_)
  obtain ⟨C, Rm, -⟩ := B
  have C : q_C Γ cX12_outweighs RX12 := C
  show q_V Γ sz 0 0 h0 [(0, .ref a0), (1, .int a1)] [] 0
  unfold m_X12_outweighs at hm
  refine q_aload_n C (k4 := 0) 0 rfl (by decide +kernel) ?_
  refine q_iload_n C (k4 := 1) 1 rfl (by decide +kernel) ?_
  refine q_viP C Rm (As := [.int a1]) (rest := []) Y_X12_strongOf Yv_X12_strongOf ml_X12_361 (by decide) (by decide) hm (fun r9 e9 => c_X12_strongOf _ _ _ _ _ _ _ _ e9) rfl rfl (Nat.le_of_ble_eq_true rfl) (by decide +kernel) (fun r1 hm z2 => ?_)
  refine q_aload_n C (k4 := 0) 0 rfl (by decide +kernel) ?_
  refine q_aload_n C (k4 := 0) 0 rfl (by decide +kernel) ?_
  refine q_viP C Rm (As := []) (rest := [.ref a0, .int r1]) Y_X12_everybody Yv_X12_everybody ml_X12_364 (by decide) (by decide) hm (fun r9 e9 => c_X12_everybody _ _ _ _ _ _ _ e9) rfl rfl (Nat.le_of_ble_eq_true rfl) (by decide +kernel) (fun r3 hm z4 => ?_)
  refine q_iload_n C (k4 := 1) 1 rfl (by decide +kernel) ?_
  refine q_iconst C (n := (-1)) (v := (-1)) (by decide) (by decide +kernel) ?_
  refine q_ixor C (by decide +kernel) ?_
  refine q_iand C (by decide +kernel) ?_
  refine q_viP C Rm (As := [.int ((r3 &&& (a1 ^^^ (-1 : Int32))))]) (rest := [.int r1]) Y_X12_strongOf Yv_X12_strongOf ml_X12_361 (by decide) (by decide) hm (fun r9 e9 => c_X12_strongOf _ _ _ _ _ _ _ _ e9) rfl rfl (Nat.le_of_ble_eq_true rfl) (by decide +kernel) (fun r5 hm z6 => ?_)
  refine q_icmp_le C (off := 7) 24 hm (by decide +kernel) (by decide) (fun _ hm => ?_) (fun _ hm => ?_)
  · refine q_iconst C (n := 0) (v := 0) (by decide) (by decide +kernel) ?_
    exact q_riP hm K q_z0 (by decide +kernel)
  · refine q_iconst C (n := 1) (v := 1) (by decide) (by decide +kernel) ?_
    refine q_goto C (off := 4) 25 (by decide +kernel) (by decide) ?_
    exact q_riP hm K q_z1 (by decide +kernel)
def m_X12_apart (h0 : q_H) (a0 : Nat) (a1 : Int32) : Option Int32 :=
  (q_ca 12 h0 a0 (m_X12_strongOf h0 a0 a1)).bind fun r1 =>
  (q_ca 12 h0 a0 (m_X12_everybody h0 a0)).bind fun r3 =>
  (q_ca 12 h0 a0 (m_X12_strongOf h0 a0 ((r3 &&& (a1 ^^^ (-1 : Int32)))))).bind fun r5 =>
  if 0 ≤ (r1 - r5) then
    some ((r1 - r5))
  else
    some ((0 - (r1 - r5)))
set_option maxRecDepth 20000 in
set_option maxHeartbeats 1000000 in
theorem c_X12_apart (l : Launch) (base : Nat) (D : va_G) (tc : Nat → ClassId) (sz : Nat) (h0 : q_H) (a0 : Nat) (a1 : Int32) {r : Int32} (hm : m_X12_apart h0 a0 a1 = some r) : q_M l yX12_apart cX12_apart 3 (some .int) 2 44 0 0 base D tc [.ref a0, .int a1] sz h0 (some (.int r)) sz h0 := by
  refine q_starti (by decide) (Nat.le_of_ble_eq_true rfl) (fun Γ B K => ?_)
  obtain ⟨C, Rm, -⟩ := B
  have C : q_C Γ cX12_apart RX12 := C
  show q_V Γ sz 0 0 h0 [(0, .ref a0), (1, .int a1)] [] 0
  unfold m_X12_apart at hm
  refine q_aload_n C (k4 := 0) 0 rfl (by decide +kernel) ?_
  refine q_iload_n C (k4 := 1) 1 rfl (by decide +kernel) ?_
  refine q_viP C Rm (As := [.int a1]) (rest := []) Y_X12_strongOf Yv_X12_strongOf ml_X12_361 (by decide) (by decide) hm (fun r9 e9 => c_X12_strongOf _ _ _ _ _ _ _ _ e9) rfl rfl (Nat.le_of_ble_eq_true rfl) (by decide +kernel) (fun r1 hm z2 => ?_)
  refine q_aload_n C (k4 := 0) 0 rfl (by decide +kernel) ?_
  refine q_aload_n C (k4 := 0) 0 rfl (by decide +kernel) ?_
  refine q_viP C Rm (As := []) (rest := [.ref a0, .int r1]) Y_X12_everybody Yv_X12_everybody ml_X12_364 (by decide) (by decide) hm (fun r9 e9 => c_X12_everybody _ _ _ _ _ _ _ e9) rfl rfl (Nat.le_of_ble_eq_true rfl) (by decide +kernel) (fun r3 hm z4 => ?_)
  refine q_iload_n C (k4 := 1) 1 rfl (by decide +kernel) ?_
  refine q_iconst C (n := (-1)) (v := (-1)) (by decide) (by decide +kernel) ?_
  refine q_ixor C (by decide +kernel) ?_
  refine q_iand C (by decide +kernel) ?_
  refine q_viP C Rm (As := [.int ((r3 &&& (a1 ^^^ (-1 : Int32))))]) (rest := [.int r1]) Y_X12_strongOf Yv_X12_strongOf ml_X12_361 (by decide) (by decide) hm (fun r9 e9 => c_X12_strongOf _ _ _ _ _ _ _ _ e9) rfl rfl (Nat.le_of_ble_eq_true rfl) (by decide +kernel) (fun r5 hm z6 => ?_)
  refine q_isub C (by decide +kernel) ?_
  refine q_istore_n C Rm.1 (k4 := 2) (i := 2) rfl (lv' := [(2, .int ((r1 - r5))), (0, .ref a0), (1, .int a1)]) rfl (by decide) (by decide +kernel) ?_
  refine q_iload_n C (k4 := 2) 0 rfl (by decide +kernel) ?_
  refine q_if_ge C (off := 8) 28 hm (by decide +kernel) (by decide) (fun _ hm => ?_) (fun _ hm => ?_)
  · refine q_iload_n C (k4 := 2) 0 rfl (by decide +kernel) ?_
    exact q_riP hm K rfl (by decide +kernel)
  · refine q_iload_n C (k4 := 2) 0 rfl (by decide +kernel) ?_
    refine q_ineg C (by decide +kernel) ?_
    refine q_goto C (off := 4) 29 (by decide +kernel) (by decide) ?_
    exact q_riP hm K rfl (by decide +kernel)
def m_X12_fair_46 (k23 : q_H → Nat → Int32 → Int32 → Int32 → Option Int32) (h0 : q_H) (x0 : Nat) (x1 : Int32) (x2 : Int32) (x3 : Int32) : Option Int32 :=
  k23 h0 x0 x1 x2 ((x3 + (1 : Int32)))
set_option maxRecDepth 20000 in
set_option maxHeartbeats 1000000 in
theorem v_X12_fair_46 {Γ : q_G} {sz : Nat} {h0 : q_H} {r : Int32} (C : q_C Γ cX12_fair RX12) (Rm : q_Rm Γ 4 3 66 0 0) {k23 : q_H → Nat → Int32 → Int32 → Int32 → Option Int32} (K : narrow .int (.int r) = .int r → q_K Γ cX12_fair .ireturn sz h0 0 0 [.int r]) (hk23 : ∀ (x0 : Nat) (x1 : Int32) (x2 : Int32) (x3 : Int32), k23 h0 x0 x1 x2 x3 = some r → q_V Γ sz 0 0 h0 [(0, .ref x0), (1, .int x1), (2, .int x2), (3, .int x3)] [] 23) : ∀ (x0 : Nat) (x1 : Int32) (x2 : Int32) (x3 : Int32), m_X12_fair_46 k23 h0 x0 x1 x2 x3 = some r → q_V Γ sz 0 0 h0 [(0, .ref x0), (1, .int x1), (2, .int x2), (3, .int x3)] [] 46 := by
  intro x0 x1 x2 x3 hm
  unfold m_X12_fair_46 at hm
  refine q_iinc C Rm.1 (i := 3) (n := 1) (v := (x3 + (1 : Int32))) 3 rfl (q_inc _ (by decide)) (lv' := [(3, .int ((x3 + (1 : Int32)))), (0, .ref x0), (1, .int x1), (2, .int x2)]) rfl (by decide) (by decide +kernel) ?_
  refine q_goto C (off := -26) 23 (by decide +kernel) (by decide) ?_
  refine q_loc [1, 2, 3, 0] rfl ?_
  exact hk23 _ _ _ _ hm
def m_X12_fair_23  : Nat → q_H → Nat → Int32 → Int32 → Int32 → Option Int32
  | 0, _, _, _, _, _ => none
  | n + 1, h0, x0, x1, x2, x3 =>
    (q_ca 12 h0 x0 (m_X12_everybody h0 x0)).bind fun r5 =>
    if r5 < x3 then
      if x1 = 0 then
        (q_ca 12 h0 x0 (m_X12_apart h0 x0 x2)).bind fun r7 =>
        some r7
      else
        some x2
    else
      (q_ca 12 h0 x0 (m_X12_apart h0 x0 x3)).bind fun r9 =>
      (q_ca 12 h0 x0 (m_X12_apart h0 x0 x2)).bind fun r11 =>
      if r11 ≤ r9 then
        m_X12_fair_46 (m_X12_fair_23 n) h0 x0 x1 x2 x3
      else
        m_X12_fair_46 (m_X12_fair_23 n) h0 x0 x1 x3 x3
set_option maxRecDepth 20000 in
set_option maxHeartbeats 1000000 in
theorem v_X12_fair_23 {Γ : q_G} {sz : Nat} {h0 : q_H} {r : Int32} (C : q_C Γ cX12_fair RX12) (Rm : q_Rm Γ 4 3 66 0 0)  (K : narrow .int (.int r) = .int r → q_K Γ cX12_fair .ireturn sz h0 0 0 [.int r])  : ∀ (n : Nat) (x0 : Nat) (x1 : Int32) (x2 : Int32) (x3 : Int32), m_X12_fair_23 n h0 x0 x1 x2 x3 = some r → q_V Γ sz 0 0 h0 [(0, .ref x0), (1, .int x1), (2, .int x2), (3, .int x3)] [] 23 := by
  intro n
  induction n with
  | zero => intro x0 x1 x2 x3 hm; cases hm
  | succ n ih =>
    intro x0 x1 x2 x3 hm
    unfold m_X12_fair_23 at hm
    refine q_iload_n C (k4 := 3) 3 rfl (by decide +kernel) ?_
    refine q_aload_n C (k4 := 0) 0 rfl (by decide +kernel) ?_
    refine q_viP C Rm (As := []) (rest := [.int x3]) Y_X12_everybody Yv_X12_everybody ml_X12_364 (by decide) (by decide) hm (fun r9 e9 => c_X12_everybody _ _ _ _ _ _ _ e9) rfl rfl (Nat.le_of_ble_eq_true rfl) (by decide +kernel) (fun r5 hm z6 => ?_)
    refine q_icmp_gt C (off := 24) 52 hm (by decide +kernel) (by decide) (fun _ hm => ?_) (fun _ hm => ?_)
    · refine q_iload_n C (k4 := 1) 1 rfl (by decide +kernel) ?_
      refine q_if_ne C (off := 11) 64 hm (by decide +kernel) (by decide) (fun _ hm => ?_) (fun _ hm => ?_)
      · refine q_iload_n C (k4 := 2) 2 rfl (by decide +kernel) ?_
        exact q_riP hm K rfl (by decide +kernel)
      · refine q_aload_n C (k4 := 0) 0 rfl (by decide +kernel) ?_
        refine q_iload_n C (k4 := 2) 2 rfl (by decide +kernel) ?_
        refine q_viP C Rm (As := [.int x2]) (rest := []) Y_X12_apart Yv_X12_apart ml_X12_367 (by decide) (by decide) hm (fun r9 e9 => c_X12_apart _ _ _ _ _ _ _ _ e9) rfl rfl (Nat.le_of_ble_eq_true rfl) (by decide +kernel) (fun r7 hm z8 => ?_)
        refine q_goto C (off := 4) 65 (by decide +kernel) (by decide) ?_
        exact q_riP hm K rfl (by decide +kernel)
    · refine q_aload_n C (k4 := 0) 0 rfl (by decide +kernel) ?_
      refine q_iload_n C (k4 := 3) 3 rfl (by decide +kernel) ?_
      refine q_viP C Rm (As := [.int x3]) (rest := []) Y_X12_apart Yv_X12_apart ml_X12_367 (by decide) (by decide) hm (fun r9 e9 => c_X12_apart _ _ _ _ _ _ _ _ e9) rfl rfl (Nat.le_of_ble_eq_true rfl) (by decide +kernel) (fun r9 hm z10 => ?_)
      refine q_aload_n C (k4 := 0) 0 rfl (by decide +kernel) ?_
      refine q_iload_n C (k4 := 2) 2 rfl (by decide +kernel) ?_
      refine q_viP C Rm (As := [.int x2]) (rest := [.int r9]) Y_X12_apart Yv_X12_apart ml_X12_367 (by decide) (by decide) hm (fun r9 e9 => c_X12_apart _ _ _ _ _ _ _ _ e9) rfl rfl (Nat.le_of_ble_eq_true rfl) (by decide +kernel) (fun r11 hm z12 => ?_)
      refine q_icmp_ge C (off := 5) 46 hm (by decide +kernel) (by decide) (fun _ hm => ?_) (fun _ hm => ?_)
      · exact v_X12_fair_46 C Rm K ih _ _ _ _ hm
      · refine q_iload_n C (k4 := 3) 3 rfl (by decide +kernel) ?_
        refine q_istore_n C Rm.1 (k4 := 2) (i := 2) rfl (lv' := [(2, .int x3), (0, .ref x0), (1, .int x1), (3, .int x3)]) rfl (by decide) (by decide +kernel) ?_
        refine q_loc [1, 2, 0, 3] rfl ?_
        exact v_X12_fair_46 C Rm K ih _ _ _ _ hm
def m_X12_fair (h0 : q_H) (a0 : Nat) (a1 : Int32) : Option Int32 :=
  (q_ca 12 h0 a0 (m_X12_isRope h0 a0)).bind fun r1 =>
  if r1 = 0 then
    some ((-1 : Int32))
  else
    (m_X12_in a1.toInt64 ((0 : Int64)) ((1 : Int64))).bind fun r3 =>
    if r3 = 0 then
      some ((-1 : Int32))
    else
      m_X12_fair_23 q_fu h0 a0 a1 ((0 : Int32)) ((1 : Int32))
set_option maxRecDepth 20000 in
set_option maxHeartbeats 1000000 in
theorem c_X12_fair (l : Launch) (base : Nat) (D : va_G) (tc : Nat → ClassId) (sz : Nat) (h0 : q_H) (a0 : Nat) (a1 : Int32) {r : Int32} (hm : m_X12_fair h0 a0 a1 = some r) : q_M l yX12_fair cX12_fair 4 (some .int) 3 66 0 0 base D tc [.ref a0, .int a1] sz h0 (some (.int r)) sz h0 := by
  refine q_starti (by decide) (Nat.le_of_ble_eq_true rfl) (fun Γ B K => ?_)
  obtain ⟨C, Rm, -⟩ := B
  have C : q_C Γ cX12_fair RX12 := C
  show q_V Γ sz 0 0 h0 [(0, .ref a0), (1, .int a1)] [] 0
  unfold m_X12_fair at hm
  refine q_aload_n C (k4 := 0) 0 rfl (by decide +kernel) ?_
  refine q_viP C Rm (As := []) (rest := []) Y_X12_isRope Yv_X12_isRope ml_X12_299 (by decide) (by decide) hm (fun r9 e9 => c_X12_isRope _ _ _ _ _ _ _ e9) rfl rfl (Nat.le_of_ble_eq_true rfl) (by decide +kernel) (fun r1 hm z2 => ?_)
  refine q_if_eq C (off := 13) 17 hm (by decide +kernel) (by decide) (fun _ hm => ?_) (fun _ hm => ?_)
  · refine q_iconst C (n := (-1)) (v := (-1)) (by decide) (by decide +kernel) ?_
    exact q_riP hm K rfl (by decide +kernel)
  · refine q_iload_n C (k4 := 1) 1 rfl (by decide +kernel) ?_
    refine q_i2l C (by decide +kernel) ?_
    refine q_lconst C (n := 0) (v := 0) (by decide) (by decide +kernel) ?_
    refine q_lconst C (n := 1) (v := 1) (by decide) (by decide +kernel) ?_
    refine q_siP C Rm (As := [.long a1.toInt64, .long ((0 : Int64)), .long ((1 : Int64))]) (rest := []) Y_X12_in Ys_X12_in ml_X12_121 (by decide) (by decide) hm (fun r9 e9 => c_X12_in _ _ _ _ _ _ _ _ _ e9) rfl rfl (Nat.le_of_ble_eq_true rfl) (by decide +kernel) (fun r3 hm z4 => ?_)
    refine q_if_ne C (off := 5) 19 hm (by decide +kernel) (by decide) (fun _ hm => ?_) (fun _ hm => ?_)
    · refine q_iconst C (n := 0) (v := 0) (by decide) (by decide +kernel) ?_
      refine q_istore_n C Rm.1 (k4 := 2) (i := 2) rfl (lv' := [(2, .int ((0 : Int32))), (0, .ref a0), (1, .int a1)]) rfl (by decide) (by decide +kernel) ?_
      refine q_iconst C (n := 1) (v := 1) (by decide) (by decide +kernel) ?_
      refine q_istore_n C Rm.1 (k4 := 3) (i := 3) rfl (lv' := [(3, .int ((1 : Int32))), (2, .int ((0 : Int32))), (0, .ref a0), (1, .int a1)]) rfl (by decide) (by decide +kernel) ?_
      refine q_loc [2, 3, 1, 0] rfl ?_
      exact v_X12_fair_23 C Rm K _ _ _ _ _ hm
    · refine q_iconst C (n := (-1)) (v := (-1)) (by decide) (by decide +kernel) ?_
      exact q_riP hm K rfl (by decide +kernel)
def m_X12_isSwing (h0 : q_H) (a0 : Nat) (a1 : Int32) (a2 : Int32) : Option Int32 :=
  (m_X12_isOf a1 a2).bind fun r1 =>
  if r1 = 0 then
    (q_ca 12 h0 a0 (m_X12_outweighs h0 a0 a1)).bind fun r3 =>
    if r3 = 0 then
      (q_ca 12 h0 a0 (m_X12_outweighs h0 a0 ((a1 ||| ((1 : Int32) <<< (a2 &&& 31)))))).bind fun r5 =>
      if r5 = 0 then
        some ((0 : Int32))
      else
        some ((1 : Int32))
    else
      some ((0 : Int32))
  else
    some ((0 : Int32))
set_option maxRecDepth 20000 in
set_option maxHeartbeats 1000000 in
theorem c_X12_isSwing (l : Launch) (base : Nat) (D : va_G) (tc : Nat → ClassId) (sz : Nat) (h0 : q_H) (a0 : Nat) (a1 : Int32) (a2 : Int32) {r : Int32} (hm : m_X12_isSwing h0 a0 a1 a2 = some r) : q_M l yX12_isSwing cX12_isSwing 3 (some .boolean) 3 65 0 0 base D tc [.ref a0, .int a1, .int a2] sz h0 (some (.int r)) sz h0 := by
  refine q_starti (by decide) (Nat.le_of_ble_eq_true rfl) (fun Γ B K => ?_)
  obtain ⟨C, Rm, -⟩ := B
  have C : q_C Γ cX12_isSwing RX12 := C
  show q_V Γ sz 0 0 h0 [(0, .ref a0), (1, .int a1), (2, .int a2)] [] 0
  unfold m_X12_isSwing at hm
  refine q_iload_n C (k4 := 1) 1 rfl (by decide +kernel) ?_
  refine q_iload_n C (k4 := 2) 2 rfl (by decide +kernel) ?_
  refine q_siP C Rm (As := [.int a1, .int a2]) (rest := []) Y_X12_isOf Ys_X12_isOf ml_X12_358 (by decide) (by decide) hm (fun r9 e9 => c_X12_isOf _ _ _ _ _ _ _ _ e9) rfl rfl (Nat.le_of_ble_eq_true rfl) (by decide +kernel) (fun r1 hm z2 => ?_)
  refine q_if_ne C (off := 27) 32 hm (by decide +kernel) (by decide) (fun _ hm => ?_) (fun _ hm => ?_)
  · refine q_iconst C (n := 0) (v := 0) (by decide) (by decide +kernel) ?_
    exact q_riP hm K q_z0 (by decide +kernel)
  · refine q_aload_n C (k4 := 0) 0 rfl (by decide +kernel) ?_
    refine q_iload_n C (k4 := 1) 1 rfl (by decide +kernel) ?_
    refine q_viP C Rm (As := [.int a1]) (rest := []) Y_X12_outweighs Yv_X12_outweighs ml_X12_370 (by decide) (by decide) hm (fun r9 e9 => c_X12_outweighs _ _ _ _ _ _ _ _ e9) rfl rfl (Nat.le_of_ble_eq_true rfl) (by decide +kernel) (fun r3 hm z4 => ?_)
    refine q_if_ne C (off := 19) 32 hm (by decide +kernel) (by decide) (fun _ hm => ?_) (fun _ hm => ?_)
    · refine q_iconst C (n := 0) (v := 0) (by decide) (by decide +kernel) ?_
      exact q_riP hm K q_z0 (by decide +kernel)
    · refine q_aload_n C (k4 := 0) 0 rfl (by decide +kernel) ?_
      refine q_iload_n C (k4 := 1) 1 rfl (by decide +kernel) ?_
      refine q_iconst C (n := 1) (v := 1) (by decide) (by decide +kernel) ?_
      refine q_iload_n C (k4 := 2) 2 rfl (by decide +kernel) ?_
      refine q_ishl C (by decide +kernel) ?_
      refine q_ior C (by decide +kernel) ?_
      refine q_viP C Rm (As := [.int ((a1 ||| ((1 : Int32) <<< (a2 &&& 31))))]) (rest := []) Y_X12_outweighs Yv_X12_outweighs ml_X12_370 (by decide) (by decide) hm (fun r9 e9 => c_X12_outweighs _ _ _ _ _ _ _ _ e9) rfl rfl (Nat.le_of_ble_eq_true rfl) (by decide +kernel) (fun r5 hm z6 => ?_)
      refine q_if_eq C (off := 7) 32 hm (by decide +kernel) (by decide) (fun _ hm => ?_) (fun _ hm => ?_)
      · refine q_iconst C (n := 0) (v := 0) (by decide) (by decide +kernel) ?_
        exact q_riP hm K q_z0 (by decide +kernel)
      · refine q_iconst C (n := 1) (v := 1) (by decide) (by decide +kernel) ?_
        refine q_goto C (off := 4) 33 (by decide +kernel) (by decide) ?_
        exact q_riP hm K q_z1 (by decide +kernel)
def m_X12_swings_37 (k14 : q_H → Nat → Int32 → Int32 → Int32 → Option Int32) (h0 : q_H) (x0 : Nat) (x1 : Int32) (x3 : Int32) (s0 : Int32) (s1 : Int32) : Option Int32 :=
  k14 h0 x0 x1 ((s1 + s0)) ((x3 + (1 : Int32)))
set_option maxRecDepth 20000 in
set_option maxHeartbeats 1000000 in
theorem v_X12_swings_37 {Γ : q_G} {sz : Nat} {h0 : q_H} {r : Int32} (C : q_C Γ cX12_swings RX12) (Rm : q_Rm Γ 4 4 87 0 0) {k14 : q_H → Nat → Int32 → Int32 → Int32 → Option Int32} (K : narrow .int (.int r) = .int r → q_K Γ cX12_swings .ireturn sz h0 0 0 [.int r]) (hk14 : ∀ (x0 : Nat) (x1 : Int32) (x2 : Int32) (x3 : Int32), k14 h0 x0 x1 x2 x3 = some r → q_V Γ sz 0 0 h0 [(0, .ref x0), (1, .int x1), (2, .int x2), (3, .int x3)] [] 14) : ∀ (x0 : Nat) (x1 : Int32) (x3 : Int32) (s0 : Int32) (s1 : Int32), m_X12_swings_37 k14 h0 x0 x1 x3 s0 s1 = some r → q_V Γ sz 0 0 h0 [(0, .ref x0), (1, .int x1), (3, .int x3)] [.int s0, .int s1] 37 := by
  intro x0 x1 x3 s0 s1 hm
  unfold m_X12_swings_37 at hm
  refine q_iadd C (by decide +kernel) ?_
  refine q_istore_n C Rm.1 (k4 := 2) (i := 2) rfl (lv' := [(2, .int ((s1 + s0))), (0, .ref x0), (1, .int x1), (3, .int x3)]) rfl (by decide) (by decide +kernel) ?_
  refine q_iinc C Rm.1 (i := 3) (n := 1) (v := (x3 + (1 : Int32))) 3 rfl (q_inc _ (by decide)) (lv' := [(3, .int ((x3 + (1 : Int32)))), (2, .int ((s1 + s0))), (0, .ref x0), (1, .int x1)]) rfl (by decide) (by decide +kernel) ?_
  refine q_goto C (off := -28) 14 (by decide +kernel) (by decide) ?_
  refine q_loc [2, 3, 1, 0] rfl ?_
  exact hk14 _ _ _ _ hm
def m_X12_swings_14  : Nat → q_H → Nat → Int32 → Int32 → Int32 → Option Int32
  | 0, _, _, _, _, _ => none
  | n + 1, h0, x0, x1, x2, x3 =>
    (q_ca 12 h0 x0 (m_X12_everybody h0 x0)).bind fun r3 =>
    if r3 < x3 then
      some x2
    else
      (q_ca 12 h0 x0 (m_X12_isSwing h0 x0 x3 x1)).bind fun r5 =>
      if r5 = 0 then
        m_X12_swings_37 (m_X12_swings_14 n) h0 x0 x1 x3 ((0 : Int32)) x2
      else
        m_X12_swings_37 (m_X12_swings_14 n) h0 x0 x1 x3 ((1 : Int32)) x2
set_option maxRecDepth 20000 in
set_option maxHeartbeats 1000000 in
theorem v_X12_swings_14 {Γ : q_G} {sz : Nat} {h0 : q_H} {r : Int32} (C : q_C Γ cX12_swings RX12) (Rm : q_Rm Γ 4 4 87 0 0)  (K : narrow .int (.int r) = .int r → q_K Γ cX12_swings .ireturn sz h0 0 0 [.int r])  : ∀ (n : Nat) (x0 : Nat) (x1 : Int32) (x2 : Int32) (x3 : Int32), m_X12_swings_14 n h0 x0 x1 x2 x3 = some r → q_V Γ sz 0 0 h0 [(0, .ref x0), (1, .int x1), (2, .int x2), (3, .int x3)] [] 14 := by
  intro n
  induction n with
  | zero => intro x0 x1 x2 x3 hm; cases hm
  | succ n ih =>
    intro x0 x1 x2 x3 hm
    unfold m_X12_swings_14 at hm
    refine q_iload_n C (k4 := 3) 3 rfl (by decide +kernel) ?_
    refine q_aload_n C (k4 := 0) 0 rfl (by decide +kernel) ?_
    refine q_viP C Rm (As := []) (rest := [.int x3]) Y_X12_everybody Yv_X12_everybody ml_X12_364 (by decide) (by decide) hm (fun r9 e9 => c_X12_everybody _ _ _ _ _ _ _ e9) rfl rfl (Nat.le_of_ble_eq_true rfl) (by decide +kernel) (fun r3 hm z4 => ?_)
    refine q_icmp_gt C (off := 26) 45 hm (by decide +kernel) (by decide) (fun _ hm => ?_) (fun _ hm => ?_)
    · refine q_iload_n C (k4 := 2) 2 rfl (by decide +kernel) ?_
      exact q_riP hm K rfl (by decide +kernel)
    · refine q_iload_n C (k4 := 2) 2 rfl (by decide +kernel) ?_
      refine q_aload_n C (k4 := 0) 0 rfl (by decide +kernel) ?_
      refine q_iload_n C (k4 := 3) 3 rfl (by decide +kernel) ?_
      refine q_iload_n C (k4 := 1) 1 rfl (by decide +kernel) ?_
      refine q_viP C Rm (As := [.int x3, .int x1]) (rest := [.int x2]) Y_X12_isSwing Yv_X12_isSwing ml_X12_373 (by decide) (by decide) hm (fun r9 e9 => c_X12_isSwing _ _ _ _ _ _ _ _ _ e9) rfl rfl (Nat.le_of_ble_eq_true rfl) (by decide +kernel) (fun r5 hm z6 => ?_)
      refine q_if_eq C (off := 7) 36 hm (by decide +kernel) (by decide) (fun _ hm => ?_) (fun _ hm => ?_)
      · refine q_iconst C (n := 0) (v := 0) (by decide) (by decide +kernel) ?_
        refine q_loc [0, 1, 3] rfl ?_
        exact v_X12_swings_37 C Rm K ih _ _ _ _ _ hm
      · refine q_iconst C (n := 1) (v := 1) (by decide) (by decide +kernel) ?_
        refine q_goto C (off := 4) 37 (by decide +kernel) (by decide) ?_
        refine q_loc [0, 1, 3] rfl ?_
        exact v_X12_swings_37 C Rm K ih _ _ _ _ _ hm
def m_X12_swings (h0 : q_H) (a0 : Nat) (a1 : Int32) : Option Int32 :=
  (q_ca 12 h0 a0 (m_X12_isPuller h0 a0 a1)).bind fun r1 =>
  if r1 = 0 then
    some ((-1 : Int32))
  else
    m_X12_swings_14 q_fu h0 a0 a1 ((0 : Int32)) ((0 : Int32))
set_option maxRecDepth 20000 in
set_option maxHeartbeats 1000000 in
theorem c_X12_swings (l : Launch) (base : Nat) (D : va_G) (tc : Nat → ClassId) (sz : Nat) (h0 : q_H) (a0 : Nat) (a1 : Int32) {r : Int32} (hm : m_X12_swings h0 a0 a1 = some r) : q_M l yX12_swings cX12_swings 4 (some .int) 4 87 0 0 base D tc [.ref a0, .int a1] sz h0 (some (.int r)) sz h0 := by
  refine q_starti (by decide) (Nat.le_of_ble_eq_true rfl) (fun Γ B K => ?_)
  obtain ⟨C, Rm, -⟩ := B
  have C : q_C Γ cX12_swings RX12 := C
  show q_V Γ sz 0 0 h0 [(0, .ref a0), (1, .int a1)] [] 0
  unfold m_X12_swings at hm
  refine q_aload_n C (k4 := 0) 0 rfl (by decide +kernel) ?_
  refine q_iload_n C (k4 := 1) 1 rfl (by decide +kernel) ?_
  refine q_viP C Rm (As := [.int a1]) (rest := []) Y_X12_isPuller Yv_X12_isPuller ml_X12_278 (by decide) (by decide) hm (fun r9 e9 => c_X12_isPuller _ _ _ _ _ _ _ _ e9) rfl rfl (Nat.le_of_ble_eq_true rfl) (by decide +kernel) (fun r1 hm z2 => ?_)
  refine q_if_ne C (off := 5) 10 hm (by decide +kernel) (by decide) (fun _ hm => ?_) (fun _ hm => ?_)
  · refine q_iconst C (n := 0) (v := 0) (by decide) (by decide +kernel) ?_
    refine q_istore_n C Rm.1 (k4 := 2) (i := 2) rfl (lv' := [(2, .int ((0 : Int32))), (0, .ref a0), (1, .int a1)]) rfl (by decide) (by decide +kernel) ?_
    refine q_iconst C (n := 0) (v := 0) (by decide) (by decide +kernel) ?_
    refine q_istore_n C Rm.1 (k4 := 3) (i := 3) rfl (lv' := [(3, .int ((0 : Int32))), (2, .int ((0 : Int32))), (0, .ref a0), (1, .int a1)]) rfl (by decide) (by decide +kernel) ?_
    refine q_loc [2, 3, 1, 0] rfl ?_
    exact v_X12_swings_14 C Rm K _ _ _ _ _ hm
  · refine q_iconst C (n := (-1)) (v := (-1)) (by decide) (by decide +kernel) ?_
    exact q_riP hm K rfl (by decide +kernel)
def m_X12_rowsOf_4  : Nat → Int32 → Int32 → Int32 → Option Int32
  | 0, _, _, _ => none
  | n + 1, x0, x1, x2 =>
    if x0 < x2 then
      some x1
    else
      m_X12_rowsOf_4 n x0 ((x1 * x2)) ((x2 + (1 : Int32)))
set_option maxRecDepth 20000 in
set_option maxHeartbeats 1000000 in
theorem v_X12_rowsOf_4 {Γ : q_G} {sz : Nat} {r : Int32} {h0 : q_H} (C : q_C Γ cX12_rowsOf RX12) (Rm : q_Rm Γ 3 0 0 0 0)  (K : narrow .int (.int r) = .int r → q_K Γ cX12_rowsOf .ireturn sz h0 0 0 [.int r])  : ∀ (n : Nat) (x0 : Int32) (x1 : Int32) (x2 : Int32), m_X12_rowsOf_4 n x0 x1 x2 = some r → q_V Γ sz 0 0 h0 [(0, .int x0), (1, .int x1), (2, .int x2)] [] 4 := by
  intro n
  induction n with
  | zero => intro x0 x1 x2 hm; cases hm
  | succ n ih =>
    intro x0 x1 x2 hm
    unfold m_X12_rowsOf_4 at hm
    refine q_iload_n C (k4 := 2) 2 rfl (by decide +kernel) ?_
    refine q_iload_n C (k4 := 0) 0 rfl (by decide +kernel) ?_
    refine q_icmp_gt C (off := 13) 19 hm (by decide +kernel) (by decide) (fun _ hm => ?_) (fun _ hm => ?_)
    · refine q_iload_n C (k4 := 1) 1 rfl (by decide +kernel) ?_
      exact q_riP hm K rfl (by decide +kernel)
    · refine q_iload_n C (k4 := 1) 1 rfl (by decide +kernel) ?_
      refine q_iload_n C (k4 := 2) 2 rfl (by decide +kernel) ?_
      refine q_imul C (by decide +kernel) ?_
      refine q_istore_n C Rm.1 (k4 := 1) (i := 1) rfl (lv' := [(1, .int ((x1 * x2))), (0, .int x0), (2, .int x2)]) rfl (by decide) (by decide +kernel) ?_
      refine q_iinc C Rm.1 (i := 2) (n := 1) (v := (x2 + (1 : Int32))) 2 rfl (q_inc _ (by decide)) (lv' := [(2, .int ((x2 + (1 : Int32)))), (1, .int ((x1 * x2))), (0, .int x0)]) rfl (by decide) (by decide +kernel) ?_
      refine q_goto C (off := -12) 4 (by decide +kernel) (by decide) ?_
      refine q_loc [2, 1, 0] rfl ?_
      exact ih _ _ _ hm
def m_X12_rowsOf (a0 : Int32) : Option Int32 :=
  m_X12_rowsOf_4 q_fu a0 ((1 : Int32)) ((2 : Int32))
set_option maxRecDepth 20000 in
set_option maxHeartbeats 1000000 in
theorem c_X12_rowsOf (l : Launch) (base : Nat) (D : va_G) (tc : Nat → ClassId) (sz : Nat) (h0 : q_H) (a0 : Int32) {r : Int32} (hm : m_X12_rowsOf a0 = some r) : q_M l yX12_rowsOf cX12_rowsOf 3 (some .int) 0 0 0 0 base D tc [.int a0] sz h0 (some (.int r)) sz h0 := by
  refine q_starti (by decide) (Nat.le_of_ble_eq_true rfl) (fun Γ B K => ?_)
  obtain ⟨C, Rm, -⟩ := B
  have C : q_C Γ cX12_rowsOf RX12 := C
  show q_V Γ sz 0 0 h0 [(0, .int a0)] [] 0
  unfold m_X12_rowsOf at hm
  refine q_iconst C (n := 1) (v := 1) (by decide) (by decide +kernel) ?_
  refine q_istore_n C Rm.1 (k4 := 1) (i := 1) rfl (lv' := [(1, .int ((1 : Int32))), (0, .int a0)]) rfl (by decide) (by decide +kernel) ?_
  refine q_iconst C (n := 2) (v := 2) (by decide) (by decide +kernel) ?_
  refine q_istore_n C Rm.1 (k4 := 2) (i := 2) rfl (lv' := [(2, .int ((2 : Int32))), (1, .int ((1 : Int32))), (0, .int a0)]) rfl (by decide) (by decide +kernel) ?_
  refine q_loc [2, 1, 0] rfl ?_
  exact v_X12_rowsOf_4 C Rm K _ _ _ _ hm
def m_X12_shares_58 (k14 : q_H → Nat → Int32 → Int32 → Int32 → Option Int32) (h0 : q_H) (x0 : Nat) (x1 : Int32) (x2 : Int32) (x3 : Int32) : Option Int32 :=
  k14 h0 x0 x1 x2 ((x3 + (1 : Int32)))
set_option maxRecDepth 20000 in
set_option maxHeartbeats 1000000 in
theorem v_X12_shares_58 {Γ : q_G} {sz : Nat} {h0 : q_H} {r : Int32} (C : q_C Γ cX12_shares RX12) (Rm : q_Rm Γ 4 4 87 0 0) {k14 : q_H → Nat → Int32 → Int32 → Int32 → Option Int32} (K : narrow .int (.int r) = .int r → q_K Γ cX12_shares .ireturn sz h0 0 0 [.int r]) (hk14 : ∀ (x0 : Nat) (x1 : Int32) (x2 : Int32) (x3 : Int32), k14 h0 x0 x1 x2 x3 = some r → q_V Γ sz 0 0 h0 [(0, .ref x0), (1, .int x1), (2, .int x2), (3, .int x3)] [] 14) : ∀ (x0 : Nat) (x1 : Int32) (x2 : Int32) (x3 : Int32), m_X12_shares_58 k14 h0 x0 x1 x2 x3 = some r → q_V Γ sz 0 0 h0 [(0, .ref x0), (1, .int x1), (2, .int x2), (3, .int x3)] [] 58 := by
  intro x0 x1 x2 x3 hm
  unfold m_X12_shares_58 at hm
  refine q_iinc C Rm.1 (i := 3) (n := 1) (v := (x3 + (1 : Int32))) 3 rfl (q_inc _ (by decide)) (lv' := [(3, .int ((x3 + (1 : Int32)))), (0, .ref x0), (1, .int x1), (2, .int x2)]) rfl (by decide) (by decide +kernel) ?_
  refine q_goto C (off := -47) 14 (by decide +kernel) (by decide) ?_
  refine q_loc [1, 2, 3, 0] rfl ?_
  exact hk14 _ _ _ _ hm
def m_X12_shares_14  : Nat → q_H → Nat → Int32 → Int32 → Int32 → Option Int32
  | 0, _, _, _, _, _ => none
  | n + 1, h0, x0, x1, x2, x3 =>
    (q_ca 12 h0 x0 (m_X12_everybody h0 x0)).bind fun r3 =>
    if r3 < x3 then
      some x2
    else
      (q_ca 12 h0 x0 (m_X12_isSwing h0 x0 x3 x1)).bind fun r5 =>
      if r5 = 0 then
        m_X12_shares_58 (m_X12_shares_14 n) h0 x0 x1 x2 x3
      else
        (m_X12_bits x3).bind fun r7 =>
        (m_X12_rowsOf r7).bind fun r9 =>
        (q_gn h0 x0 12 20).bind fun v11 =>
        (q_ai h0 v11 1 ((3 : Int32))).bind fun v12 =>
        (m_X12_bits x3).bind fun r13 =>
        (m_X12_rowsOf (((v12 - (1 : Int32)) - r13))).bind fun r15 =>
        m_X12_shares_58 (m_X12_shares_14 n) h0 x0 x1 ((x2 + (r9 * r15))) x3
set_option maxRecDepth 20000 in
set_option maxHeartbeats 1000000 in
theorem v_X12_shares_14 {Γ : q_G} {sz : Nat} {h0 : q_H} {r : Int32} (C : q_C Γ cX12_shares RX12) (Rm : q_Rm Γ 4 4 87 0 0)  (K : narrow .int (.int r) = .int r → q_K Γ cX12_shares .ireturn sz h0 0 0 [.int r])  : ∀ (n : Nat) (x0 : Nat) (x1 : Int32) (x2 : Int32) (x3 : Int32), m_X12_shares_14 n h0 x0 x1 x2 x3 = some r → q_V Γ sz 0 0 h0 [(0, .ref x0), (1, .int x1), (2, .int x2), (3, .int x3)] [] 14 := by
  intro n
  induction n with
  | zero => intro x0 x1 x2 x3 hm; cases hm
  | succ n ih =>
    intro x0 x1 x2 x3 hm
    unfold m_X12_shares_14 at hm
    refine q_iload_n C (k4 := 3) 3 rfl (by decide +kernel) ?_
    refine q_aload_n C (k4 := 0) 0 rfl (by decide +kernel) ?_
    refine q_viP C Rm (As := []) (rest := [.int x3]) Y_X12_everybody Yv_X12_everybody ml_X12_364 (by decide) (by decide) hm (fun r9 e9 => c_X12_everybody _ _ _ _ _ _ _ e9) rfl rfl (Nat.le_of_ble_eq_true rfl) (by decide +kernel) (fun r3 hm z4 => ?_)
    refine q_icmp_gt C (off := 45) 64 hm (by decide +kernel) (by decide) (fun _ hm => ?_) (fun _ hm => ?_)
    · refine q_iload_n C (k4 := 2) 2 rfl (by decide +kernel) ?_
      exact q_riP hm K rfl (by decide +kernel)
    · refine q_aload_n C (k4 := 0) 0 rfl (by decide +kernel) ?_
      refine q_iload_n C (k4 := 3) 3 rfl (by decide +kernel) ?_
      refine q_iload_n C (k4 := 1) 1 rfl (by decide +kernel) ?_
      refine q_viP C Rm (As := [.int x3, .int x1]) (rest := []) Y_X12_isSwing Yv_X12_isSwing ml_X12_373 (by decide) (by decide) hm (fun r9 e9 => c_X12_isSwing _ _ _ _ _ _ _ _ _ e9) rfl rfl (Nat.le_of_ble_eq_true rfl) (by decide +kernel) (fun r5 hm z6 => ?_)
      refine q_if_eq C (off := 30) 58 hm (by decide +kernel) (by decide) (fun _ hm => ?_) (fun _ hm => ?_)
      · exact v_X12_shares_58 C Rm K ih _ _ _ _ hm
      · refine q_iload_n C (k4 := 2) 2 rfl (by decide +kernel) ?_
        refine q_iload_n C (k4 := 3) 3 rfl (by decide +kernel) ?_
        refine q_siP C Rm (As := [.int x3]) (rest := [.int x2]) Y_X12_bits Ys_X12_bits ml_X12_312 (by decide) (by decide) hm (fun r9 e9 => c_X12_bits _ _ _ _ _ _ _ e9) rfl rfl (Nat.le_of_ble_eq_true rfl) (by decide +kernel) (fun r7 hm z8 => ?_)
        refine q_siP C Rm (As := [.int r7]) (rest := [.int x2]) Y_X12_rowsOf Ys_X12_rowsOf ml_X12_376 (by decide) (by decide) hm (fun r9 e9 => c_X12_rowsOf _ _ _ _ _ _ _ e9) rfl rfl (Nat.le_of_ble_eq_true rfl) (by decide +kernel) (fun r9 hm z10 => ?_)
        refine q_aload_n C (k4 := 0) 0 rfl (by decide +kernel) ?_
        refine q_getn C fl_12_39 hm (by decide +kernel) (fun v11 hm => ?_)
        refine q_iconst C (n := 3) (v := 3) (by decide) (by decide +kernel) ?_
        refine q_ir C hm (by decide +kernel) (fun v12 hm => ?_)
        refine q_iconst C (n := 1) (v := 1) (by decide) (by decide +kernel) ?_
        refine q_isub C (by decide +kernel) ?_
        refine q_iload_n C (k4 := 3) 3 rfl (by decide +kernel) ?_
        refine q_siP C Rm (As := [.int x3]) (rest := [.int ((v12 - (1 : Int32))), .int r9, .int x2]) Y_X12_bits Ys_X12_bits ml_X12_312 (by decide) (by decide) hm (fun r9 e9 => c_X12_bits _ _ _ _ _ _ _ e9) rfl rfl (Nat.le_of_ble_eq_true rfl) (by decide +kernel) (fun r13 hm z14 => ?_)
        refine q_isub C (by decide +kernel) ?_
        refine q_siP C Rm (As := [.int (((v12 - (1 : Int32)) - r13))]) (rest := [.int r9, .int x2]) Y_X12_rowsOf Ys_X12_rowsOf ml_X12_376 (by decide) (by decide) hm (fun r9 e9 => c_X12_rowsOf _ _ _ _ _ _ _ e9) rfl rfl (Nat.le_of_ble_eq_true rfl) (by decide +kernel) (fun r15 hm z16 => ?_)
        refine q_imul C (by decide +kernel) ?_
        refine q_iadd C (by decide +kernel) ?_
        refine q_istore_n C Rm.1 (k4 := 2) (i := 2) rfl (lv' := [(2, .int ((x2 + (r9 * r15)))), (0, .ref x0), (1, .int x1), (3, .int x3)]) rfl (by decide) (by decide +kernel) ?_
        refine q_loc [1, 2, 0, 3] rfl ?_
        exact v_X12_shares_58 C Rm K ih _ _ _ _ hm
def m_X12_shares (h0 : q_H) (a0 : Nat) (a1 : Int32) : Option Int32 :=
  (q_ca 12 h0 a0 (m_X12_isPuller h0 a0 a1)).bind fun r1 =>
  if r1 = 0 then
    some ((-1 : Int32))
  else
    m_X12_shares_14 q_fu h0 a0 a1 ((0 : Int32)) ((0 : Int32))
set_option maxRecDepth 20000 in
set_option maxHeartbeats 1000000 in
theorem c_X12_shares (l : Launch) (base : Nat) (D : va_G) (tc : Nat → ClassId) (sz : Nat) (h0 : q_H) (a0 : Nat) (a1 : Int32) {r : Int32} (hm : m_X12_shares h0 a0 a1 = some r) : q_M l yX12_shares cX12_shares 4 (some .int) 4 87 0 0 base D tc [.ref a0, .int a1] sz h0 (some (.int r)) sz h0 := by
  refine q_starti (by decide) (Nat.le_of_ble_eq_true rfl) (fun Γ B K => ?_)
  obtain ⟨C, Rm, -⟩ := B
  have C : q_C Γ cX12_shares RX12 := C
  show q_V Γ sz 0 0 h0 [(0, .ref a0), (1, .int a1)] [] 0
  unfold m_X12_shares at hm
  refine q_aload_n C (k4 := 0) 0 rfl (by decide +kernel) ?_
  refine q_iload_n C (k4 := 1) 1 rfl (by decide +kernel) ?_
  refine q_viP C Rm (As := [.int a1]) (rest := []) Y_X12_isPuller Yv_X12_isPuller ml_X12_278 (by decide) (by decide) hm (fun r9 e9 => c_X12_isPuller _ _ _ _ _ _ _ _ e9) rfl rfl (Nat.le_of_ble_eq_true rfl) (by decide +kernel) (fun r1 hm z2 => ?_)
  refine q_if_ne C (off := 5) 10 hm (by decide +kernel) (by decide) (fun _ hm => ?_) (fun _ hm => ?_)
  · refine q_iconst C (n := 0) (v := 0) (by decide) (by decide +kernel) ?_
    refine q_istore_n C Rm.1 (k4 := 2) (i := 2) rfl (lv' := [(2, .int ((0 : Int32))), (0, .ref a0), (1, .int a1)]) rfl (by decide) (by decide +kernel) ?_
    refine q_iconst C (n := 0) (v := 0) (by decide) (by decide +kernel) ?_
    refine q_istore_n C Rm.1 (k4 := 3) (i := 3) rfl (lv' := [(3, .int ((0 : Int32))), (2, .int ((0 : Int32))), (0, .ref a0), (1, .int a1)]) rfl (by decide) (by decide +kernel) ?_
    refine q_loc [2, 3, 1, 0] rfl ?_
    exact v_X12_shares_14 C Rm K _ _ _ _ _ hm
  · refine q_iconst C (n := (-1)) (v := (-1)) (by decide) (by decide +kernel) ?_
    exact q_riP hm K rfl (by decide +kernel)
def m_X12_fewest_56 (k23 : q_H → Nat → Int32 → Int32 → Int32 → Option Int32) (h0 : q_H) (x0 : Nat) (x1 : Int32) (x2 : Int32) (x3 : Int32) : Option Int32 :=
  k23 h0 x0 x1 x2 ((x3 + (1 : Int32)))
set_option maxRecDepth 20000 in
set_option maxHeartbeats 1000000 in
theorem v_X12_fewest_56 {Γ : q_G} {sz : Nat} {h0 : q_H} {r : Int32} (C : q_C Γ cX12_fewest RX12) (Rm : q_Rm Γ 4 3 65 0 0) {k23 : q_H → Nat → Int32 → Int32 → Int32 → Option Int32} (K : narrow .int (.int r) = .int r → q_K Γ cX12_fewest .ireturn sz h0 0 0 [.int r]) (hk23 : ∀ (x0 : Nat) (x1 : Int32) (x2 : Int32) (x3 : Int32), k23 h0 x0 x1 x2 x3 = some r → q_V Γ sz 0 0 h0 [(0, .ref x0), (1, .int x1), (2, .int x2), (3, .int x3)] [] 23) : ∀ (x0 : Nat) (x1 : Int32) (x2 : Int32) (x3 : Int32), m_X12_fewest_56 k23 h0 x0 x1 x2 x3 = some r → q_V Γ sz 0 0 h0 [(0, .ref x0), (1, .int x1), (2, .int x2), (3, .int x3)] [] 56 := by
  intro x0 x1 x2 x3 hm
  unfold m_X12_fewest_56 at hm
  refine q_iinc C Rm.1 (i := 3) (n := 1) (v := (x3 + (1 : Int32))) 3 rfl (q_inc _ (by decide)) (lv' := [(3, .int ((x3 + (1 : Int32)))), (0, .ref x0), (1, .int x1), (2, .int x2)]) rfl (by decide) (by decide +kernel) ?_
  refine q_goto C (off := -36) 23 (by decide +kernel) (by decide) ?_
  refine q_loc [1, 2, 3, 0] rfl ?_
  exact hk23 _ _ _ _ hm
def m_X12_fewest_54 (k23 : q_H → Nat → Int32 → Int32 → Int32 → Option Int32) (h0 : q_H) (x0 : Nat) (x1 : Int32) (x3 : Int32) : Option Int32 :=
  m_X12_fewest_56 k23 h0 x0 x1 x3 x3
set_option maxRecDepth 20000 in
set_option maxHeartbeats 1000000 in
theorem v_X12_fewest_54 {Γ : q_G} {sz : Nat} {h0 : q_H} {r : Int32} (C : q_C Γ cX12_fewest RX12) (Rm : q_Rm Γ 4 3 65 0 0) {k23 : q_H → Nat → Int32 → Int32 → Int32 → Option Int32} (K : narrow .int (.int r) = .int r → q_K Γ cX12_fewest .ireturn sz h0 0 0 [.int r]) (hk23 : ∀ (x0 : Nat) (x1 : Int32) (x2 : Int32) (x3 : Int32), k23 h0 x0 x1 x2 x3 = some r → q_V Γ sz 0 0 h0 [(0, .ref x0), (1, .int x1), (2, .int x2), (3, .int x3)] [] 23) : ∀ (x0 : Nat) (x1 : Int32) (x3 : Int32), m_X12_fewest_54 k23 h0 x0 x1 x3 = some r → q_V Γ sz 0 0 h0 [(0, .ref x0), (1, .int x1), (3, .int x3)] [] 54 := by
  intro x0 x1 x3 hm
  unfold m_X12_fewest_54 at hm
  refine q_iload_n C (k4 := 3) 2 rfl (by decide +kernel) ?_
  refine q_istore_n C Rm.1 (k4 := 2) (i := 2) rfl (lv' := [(2, .int x3), (0, .ref x0), (1, .int x1), (3, .int x3)]) rfl (by decide) (by decide +kernel) ?_
  refine q_loc [1, 2, 0, 3] rfl ?_
  exact v_X12_fewest_56 C Rm K hk23 _ _ _ _ hm
def m_X12_fewest_23  : Nat → q_H → Nat → Int32 → Int32 → Int32 → Option Int32
  | 0, _, _, _, _, _ => none
  | n + 1, h0, x0, x1, x2, x3 =>
    (q_ca 12 h0 x0 (m_X12_everybody h0 x0)).bind fun r5 =>
    if r5 < x3 then
      if 0 ≤ x2 then
        if x1 = 0 then
          (m_X12_bits x2).bind fun r7 =>
          some r7
        else
          some x2
      else
        some ((-2 : Int32))
    else
      (q_ca 12 h0 x0 (m_X12_outweighs h0 x0 x3)).bind fun r9 =>
      if r9 = 0 then
        m_X12_fewest_56 (m_X12_fewest_23 n) h0 x0 x1 x2 x3
      else
        if x2 < 0 then
          m_X12_fewest_54 (m_X12_fewest_23 n) h0 x0 x1 x3
        else
          (m_X12_bits x3).bind fun r11 =>
          (m_X12_bits x2).bind fun r13 =>
          if r13 ≤ r11 then
            m_X12_fewest_56 (m_X12_fewest_23 n) h0 x0 x1 x2 x3
          else
            m_X12_fewest_54 (m_X12_fewest_23 n) h0 x0 x1 x3
set_option maxRecDepth 20000 in
set_option maxHeartbeats 1000000 in
theorem v_X12_fewest_23 {Γ : q_G} {sz : Nat} {h0 : q_H} {r : Int32} (C : q_C Γ cX12_fewest RX12) (Rm : q_Rm Γ 4 3 65 0 0)  (K : narrow .int (.int r) = .int r → q_K Γ cX12_fewest .ireturn sz h0 0 0 [.int r])  : ∀ (n : Nat) (x0 : Nat) (x1 : Int32) (x2 : Int32) (x3 : Int32), m_X12_fewest_23 n h0 x0 x1 x2 x3 = some r → q_V Γ sz 0 0 h0 [(0, .ref x0), (1, .int x1), (2, .int x2), (3, .int x3)] [] 23 := by
  intro n
  induction n with
  | zero => intro x0 x1 x2 x3 hm; cases hm
  | succ n ih =>
    intro x0 x1 x2 x3 hm
    unfold m_X12_fewest_23 at hm
    refine q_iload_n C (k4 := 3) 3 rfl (by decide +kernel) ?_
    refine q_aload_n C (k4 := 0) 0 rfl (by decide +kernel) ?_
    refine q_viP C Rm (As := []) (rest := [.int x3]) Y_X12_everybody Yv_X12_everybody ml_X12_364 (by decide) (by decide) hm (fun r9 e9 => c_X12_everybody _ _ _ _ _ _ _ e9) rfl rfl (Nat.le_of_ble_eq_true rfl) (by decide +kernel) (fun r5 hm z6 => ?_)
    refine q_icmp_gt C (off := 34) 62 hm (by decide +kernel) (by decide) (fun _ hm => ?_) (fun _ hm => ?_)
    · refine q_iload_n C (k4 := 2) 2 rfl (by decide +kernel) ?_
      refine q_if_ge C (off := 8) 71 hm (by decide +kernel) (by decide) (fun _ hm => ?_) (fun _ hm => ?_)
      · refine q_iload_n C (k4 := 1) 1 rfl (by decide +kernel) ?_
        refine q_if_ne C (off := 10) 82 hm (by decide +kernel) (by decide) (fun _ hm => ?_) (fun _ hm => ?_)
        · refine q_iload_n C (k4 := 2) 2 rfl (by decide +kernel) ?_
          exact q_riP hm K rfl (by decide +kernel)
        · refine q_iload_n C (k4 := 2) 2 rfl (by decide +kernel) ?_
          refine q_siP C Rm (As := [.int x2]) (rest := []) Y_X12_bits Ys_X12_bits ml_X12_312 (by decide) (by decide) hm (fun r9 e9 => c_X12_bits _ _ _ _ _ _ _ e9) rfl rfl (Nat.le_of_ble_eq_true rfl) (by decide +kernel) (fun r7 hm z8 => ?_)
          refine q_goto C (off := 4) 83 (by decide +kernel) (by decide) ?_
          exact q_riP hm K rfl (by decide +kernel)
      · refine q_bipush C (n := (-2)) (v := (-2)) (by decide) (by decide +kernel) ?_
        refine q_goto C (off := 15) 83 (by decide +kernel) (by decide) ?_
        exact q_riP hm K rfl (by decide +kernel)
    · refine q_aload_n C (k4 := 0) 0 rfl (by decide +kernel) ?_
      refine q_iload_n C (k4 := 3) 3 rfl (by decide +kernel) ?_
      refine q_viP C Rm (As := [.int x3]) (rest := []) Y_X12_outweighs Yv_X12_outweighs ml_X12_370 (by decide) (by decide) hm (fun r9 e9 => c_X12_outweighs _ _ _ _ _ _ _ _ e9) rfl rfl (Nat.le_of_ble_eq_true rfl) (by decide +kernel) (fun r9 hm z10 => ?_)
      refine q_if_eq C (off := 20) 56 hm (by decide +kernel) (by decide) (fun _ hm => ?_) (fun _ hm => ?_)
      · exact v_X12_fewest_56 C Rm K ih _ _ _ _ hm
      · refine q_iload_n C (k4 := 2) 2 rfl (by decide +kernel) ?_
        refine q_if_lt C (off := 14) 54 hm (by decide +kernel) (by decide) (fun _ hm => ?_) (fun _ hm => ?_)
        · refine q_loc [0, 1, 3] rfl ?_
          exact v_X12_fewest_54 C Rm K ih _ _ _ hm
        · refine q_iload_n C (k4 := 3) 3 rfl (by decide +kernel) ?_
          refine q_siP C Rm (As := [.int x3]) (rest := []) Y_X12_bits Ys_X12_bits ml_X12_312 (by decide) (by decide) hm (fun r9 e9 => c_X12_bits _ _ _ _ _ _ _ e9) rfl rfl (Nat.le_of_ble_eq_true rfl) (by decide +kernel) (fun r11 hm z12 => ?_)
          refine q_iload_n C (k4 := 2) 2 rfl (by decide +kernel) ?_
          refine q_siP C Rm (As := [.int x2]) (rest := [.int r11]) Y_X12_bits Ys_X12_bits ml_X12_312 (by decide) (by decide) hm (fun r9 e9 => c_X12_bits _ _ _ _ _ _ _ e9) rfl rfl (Nat.le_of_ble_eq_true rfl) (by decide +kernel) (fun r13 hm z14 => ?_)
          refine q_icmp_ge C (off := 5) 56 hm (by decide +kernel) (by decide) (fun _ hm => ?_) (fun _ hm => ?_)
          · exact v_X12_fewest_56 C Rm K ih _ _ _ _ hm
          · refine q_loc [0, 1, 3] rfl ?_
            exact v_X12_fewest_54 C Rm K ih _ _ _ hm
def m_X12_fewest (h0 : q_H) (a0 : Nat) (a1 : Int32) : Option Int32 :=
  (q_ca 12 h0 a0 (m_X12_isRope h0 a0)).bind fun r1 =>
  if r1 = 0 then
    some ((-1 : Int32))
  else
    (m_X12_in a1.toInt64 ((0 : Int64)) ((1 : Int64))).bind fun r3 =>
    if r3 = 0 then
      some ((-1 : Int32))
    else
      m_X12_fewest_23 q_fu h0 a0 a1 ((-1 : Int32)) ((0 : Int32))
set_option maxRecDepth 20000 in
set_option maxHeartbeats 1000000 in
theorem c_X12_fewest (l : Launch) (base : Nat) (D : va_G) (tc : Nat → ClassId) (sz : Nat) (h0 : q_H) (a0 : Nat) (a1 : Int32) {r : Int32} (hm : m_X12_fewest h0 a0 a1 = some r) : q_M l yX12_fewest cX12_fewest 4 (some .int) 3 65 0 0 base D tc [.ref a0, .int a1] sz h0 (some (.int r)) sz h0 := by
  refine q_starti (by decide) (Nat.le_of_ble_eq_true rfl) (fun Γ B K => ?_)
  obtain ⟨C, Rm, -⟩ := B
  have C : q_C Γ cX12_fewest RX12 := C
  show q_V Γ sz 0 0 h0 [(0, .ref a0), (1, .int a1)] [] 0
  unfold m_X12_fewest at hm
  refine q_aload_n C (k4 := 0) 0 rfl (by decide +kernel) ?_
  refine q_viP C Rm (As := []) (rest := []) Y_X12_isRope Yv_X12_isRope ml_X12_299 (by decide) (by decide) hm (fun r9 e9 => c_X12_isRope _ _ _ _ _ _ _ e9) rfl rfl (Nat.le_of_ble_eq_true rfl) (by decide +kernel) (fun r1 hm z2 => ?_)
  refine q_if_eq C (off := 13) 17 hm (by decide +kernel) (by decide) (fun _ hm => ?_) (fun _ hm => ?_)
  · refine q_iconst C (n := (-1)) (v := (-1)) (by decide) (by decide +kernel) ?_
    exact q_riP hm K rfl (by decide +kernel)
  · refine q_iload_n C (k4 := 1) 1 rfl (by decide +kernel) ?_
    refine q_i2l C (by decide +kernel) ?_
    refine q_lconst C (n := 0) (v := 0) (by decide) (by decide +kernel) ?_
    refine q_lconst C (n := 1) (v := 1) (by decide) (by decide +kernel) ?_
    refine q_siP C Rm (As := [.long a1.toInt64, .long ((0 : Int64)), .long ((1 : Int64))]) (rest := []) Y_X12_in Ys_X12_in ml_X12_121 (by decide) (by decide) hm (fun r9 e9 => c_X12_in _ _ _ _ _ _ _ _ _ e9) rfl rfl (Nat.le_of_ble_eq_true rfl) (by decide +kernel) (fun r3 hm z4 => ?_)
    refine q_if_ne C (off := 5) 19 hm (by decide +kernel) (by decide) (fun _ hm => ?_) (fun _ hm => ?_)
    · refine q_iconst C (n := (-1)) (v := (-1)) (by decide) (by decide +kernel) ?_
      refine q_istore_n C Rm.1 (k4 := 2) (i := 2) rfl (lv' := [(2, .int ((-1 : Int32))), (0, .ref a0), (1, .int a1)]) rfl (by decide) (by decide +kernel) ?_
      refine q_iconst C (n := 0) (v := 0) (by decide) (by decide +kernel) ?_
      refine q_istore_n C Rm.1 (k4 := 3) (i := 3) rfl (lv' := [(3, .int ((0 : Int32))), (2, .int ((-1 : Int32))), (0, .ref a0), (1, .int a1)]) rfl (by decide) (by decide +kernel) ?_
      refine q_loc [2, 3, 1, 0] rfl ?_
      exact v_X12_fewest_23 C Rm K _ _ _ _ _ hm
    · refine q_iconst C (n := (-1)) (v := (-1)) (by decide) (by decide +kernel) ?_
      exact q_riP hm K rfl (by decide +kernel)
def m_X12_needed_48 (k13 : q_H → Nat → Int32 → Int32 → Option Int32) (h0 : q_H) (x0 : Nat) (x2 : Int32) (s0 : Int32) (s1 : Int32) : Option Int32 :=
  k13 h0 x0 ((s1 ||| s0)) ((x2 + (1 : Int32)))
set_option maxRecDepth 20000 in
set_option maxHeartbeats 1000000 in
theorem v_X12_needed_48 {Γ : q_G} {sz : Nat} {h0 : q_H} {r : Int32} (C : q_C Γ cX12_needed RX12) (Rm : q_Rm Γ 3 3 65 0 0) {k13 : q_H → Nat → Int32 → Int32 → Option Int32} (K : narrow .int (.int r) = .int r → q_K Γ cX12_needed .ireturn sz h0 0 0 [.int r]) (hk13 : ∀ (x0 : Nat) (x1 : Int32) (x2 : Int32), k13 h0 x0 x1 x2 = some r → q_V Γ sz 0 0 h0 [(0, .ref x0), (1, .int x1), (2, .int x2)] [] 13) : ∀ (x0 : Nat) (x2 : Int32) (s0 : Int32) (s1 : Int32), m_X12_needed_48 k13 h0 x0 x2 s0 s1 = some r → q_V Γ sz 0 0 h0 [(0, .ref x0), (2, .int x2)] [.int s0, .int s1] 48 := by
  intro x0 x2 s0 s1 hm
  unfold m_X12_needed_48 at hm
  refine q_ior C (by decide +kernel) ?_
  refine q_istore_n C Rm.1 (k4 := 1) (i := 1) rfl (lv' := [(1, .int ((s1 ||| s0))), (0, .ref x0), (2, .int x2)]) rfl (by decide) (by decide +kernel) ?_
  refine q_iinc C Rm.1 (i := 2) (n := 1) (v := (x2 + (1 : Int32))) 2 rfl (q_inc _ (by decide)) (lv' := [(2, .int ((x2 + (1 : Int32)))), (1, .int ((s1 ||| s0))), (0, .ref x0)]) rfl (by decide) (by decide +kernel) ?_
  refine q_goto C (off := -40) 13 (by decide +kernel) (by decide) ?_
  refine q_loc [2, 1, 0] rfl ?_
  exact hk13 _ _ _ hm
def m_X12_needed_13  : Nat → q_H → Nat → Int32 → Int32 → Option Int32
  | 0, _, _, _, _ => none
  | n + 1, h0, x0, x1, x2 =>
    (q_gn h0 x0 12 20).bind fun v3 =>
    (q_ai h0 v3 1 ((3 : Int32))).bind fun v4 =>
    if v4 ≤ x2 then
      some x1
    else
      (q_ca 12 h0 x0 (m_X12_everybody h0 x0)).bind fun r5 =>
      (q_ca 12 h0 x0 (m_X12_outweighs h0 x0 ((r5 &&& (((1 : Int32) <<< (x2 &&& 31)) ^^^ (-1 : Int32)))))).bind fun r7 =>
      if r7 = 0 then
        m_X12_needed_48 (m_X12_needed_13 n) h0 x0 x2 (((1 : Int32) <<< (x2 &&& 31))) x1
      else
        m_X12_needed_48 (m_X12_needed_13 n) h0 x0 x2 ((0 : Int32)) x1
set_option maxRecDepth 20000 in
set_option maxHeartbeats 1000000 in
theorem v_X12_needed_13 {Γ : q_G} {sz : Nat} {h0 : q_H} {r : Int32} (C : q_C Γ cX12_needed RX12) (Rm : q_Rm Γ 3 3 65 0 0)  (K : narrow .int (.int r) = .int r → q_K Γ cX12_needed .ireturn sz h0 0 0 [.int r])  : ∀ (n : Nat) (x0 : Nat) (x1 : Int32) (x2 : Int32), m_X12_needed_13 n h0 x0 x1 x2 = some r → q_V Γ sz 0 0 h0 [(0, .ref x0), (1, .int x1), (2, .int x2)] [] 13 := by
  intro n
  induction n with
  | zero => intro x0 x1 x2 hm; cases hm
  | succ n ih =>
    intro x0 x1 x2 hm
    unfold m_X12_needed_13 at hm
    refine q_iload_n C (k4 := 2) 2 rfl (by decide +kernel) ?_
    refine q_aload_n C (k4 := 0) 0 rfl (by decide +kernel) ?_
    refine q_getn C fl_12_39 hm (by decide +kernel) (fun v3 hm => ?_)
    refine q_iconst C (n := 3) (v := 3) (by decide) (by decide +kernel) ?_
    refine q_ir C hm (by decide +kernel) (fun v4 hm => ?_)
    refine q_icmp_ge C (off := 36) 56 hm (by decide +kernel) (by decide) (fun _ hm => ?_) (fun _ hm => ?_)
    · refine q_iload_n C (k4 := 1) 1 rfl (by decide +kernel) ?_
      exact q_riP hm K rfl (by decide +kernel)
    · refine q_iload_n C (k4 := 1) 1 rfl (by decide +kernel) ?_
      refine q_aload_n C (k4 := 0) 0 rfl (by decide +kernel) ?_
      refine q_aload_n C (k4 := 0) 0 rfl (by decide +kernel) ?_
      refine q_viP C Rm (As := []) (rest := [.ref x0, .int x1]) Y_X12_everybody Yv_X12_everybody ml_X12_364 (by decide) (by decide) hm (fun r9 e9 => c_X12_everybody _ _ _ _ _ _ _ e9) rfl rfl (Nat.le_of_ble_eq_true rfl) (by decide +kernel) (fun r5 hm z6 => ?_)
      refine q_iconst C (n := 1) (v := 1) (by decide) (by decide +kernel) ?_
      refine q_iload_n C (k4 := 2) 2 rfl (by decide +kernel) ?_
      refine q_ishl C (by decide +kernel) ?_
      refine q_iconst C (n := (-1)) (v := (-1)) (by decide) (by decide +kernel) ?_
      refine q_ixor C (by decide +kernel) ?_
      refine q_iand C (by decide +kernel) ?_
      refine q_viP C Rm (As := [.int ((r5 &&& (((1 : Int32) <<< (x2 &&& 31)) ^^^ (-1 : Int32))))]) (rest := [.int x1]) Y_X12_outweighs Yv_X12_outweighs ml_X12_370 (by decide) (by decide) hm (fun r9 e9 => c_X12_outweighs _ _ _ _ _ _ _ _ e9) rfl rfl (Nat.le_of_ble_eq_true rfl) (by decide +kernel) (fun r7 hm z8 => ?_)
      refine q_if_eq C (off := 7) 45 hm (by decide +kernel) (by decide) (fun _ hm => ?_) (fun _ hm => ?_)
      · refine q_iconst C (n := 1) (v := 1) (by decide) (by decide +kernel) ?_
        refine q_iload_n C (k4 := 2) 2 rfl (by decide +kernel) ?_
        refine q_ishl C (by decide +kernel) ?_
        refine q_loc [0, 2] rfl ?_
        exact v_X12_needed_48 C Rm K ih _ _ _ _ hm
      · refine q_iconst C (n := 0) (v := 0) (by decide) (by decide +kernel) ?_
        refine q_goto C (off := 6) 48 (by decide +kernel) (by decide) ?_
        refine q_loc [0, 2] rfl ?_
        exact v_X12_needed_48 C Rm K ih _ _ _ _ hm
def m_X12_needed (h0 : q_H) (a0 : Nat) : Option Int32 :=
  (q_ca 12 h0 a0 (m_X12_isRope h0 a0)).bind fun r1 =>
  if r1 = 0 then
    some ((-1 : Int32))
  else
    m_X12_needed_13 q_fu h0 a0 ((0 : Int32)) ((0 : Int32))
set_option maxRecDepth 20000 in
set_option maxHeartbeats 1000000 in
theorem c_X12_needed (l : Launch) (base : Nat) (D : va_G) (tc : Nat → ClassId) (sz : Nat) (h0 : q_H) (a0 : Nat) {r : Int32} (hm : m_X12_needed h0 a0 = some r) : q_M l yX12_needed cX12_needed 3 (some .int) 3 65 0 0 base D tc [.ref a0] sz h0 (some (.int r)) sz h0 := by
  refine q_starti (by decide) (Nat.le_of_ble_eq_true rfl) (fun Γ B K => ?_)
  obtain ⟨C, Rm, -⟩ := B
  have C : q_C Γ cX12_needed RX12 := C
  show q_V Γ sz 0 0 h0 [(0, .ref a0)] [] 0
  unfold m_X12_needed at hm
  refine q_aload_n C (k4 := 0) 0 rfl (by decide +kernel) ?_
  refine q_viP C Rm (As := []) (rest := []) Y_X12_isRope Yv_X12_isRope ml_X12_299 (by decide) (by decide) hm (fun r9 e9 => c_X12_isRope _ _ _ _ _ _ _ e9) rfl rfl (Nat.le_of_ble_eq_true rfl) (by decide +kernel) (fun r1 hm z2 => ?_)
  refine q_if_ne C (off := 5) 9 hm (by decide +kernel) (by decide) (fun _ hm => ?_) (fun _ hm => ?_)
  · refine q_iconst C (n := 0) (v := 0) (by decide) (by decide +kernel) ?_
    refine q_istore_n C Rm.1 (k4 := 1) (i := 1) rfl (lv' := [(1, .int ((0 : Int32))), (0, .ref a0)]) rfl (by decide) (by decide +kernel) ?_
    refine q_iconst C (n := 0) (v := 0) (by decide) (by decide +kernel) ?_
    refine q_istore_n C Rm.1 (k4 := 2) (i := 2) rfl (lv' := [(2, .int ((0 : Int32))), (1, .int ((0 : Int32))), (0, .ref a0)]) rfl (by decide) (by decide +kernel) ?_
    refine q_loc [2, 1, 0] rfl ?_
    exact v_X12_needed_13 C Rm K _ _ _ _ hm
  · refine q_iconst C (n := (-1)) (v := (-1)) (by decide) (by decide +kernel) ?_
    exact q_riP hm K rfl (by decide +kernel)
def m_X12_keeps_2  : Nat → q_H → Nat → Int32 → Option q_H
  | 0, _, _, _ => none
  | n + 1, h, x0, x1 =>
    if (42 : Int32) ≤ x1 then
      some h
    else
      (q_gn h x0 12 27).bind fun v1 =>
      (q_gn h x0 12 20).bind fun v2 =>
      (q_ai h v2 1 (((10 : Int32) + x1))).bind fun v3 =>
      (q_si h v1 1 x1 v3).bind fun h4 =>
      m_X12_keeps_2 n h4 x0 ((x1 + (1 : Int32)))
set_option maxRecDepth 20000 in
set_option maxHeartbeats 1000000 in
theorem v_X12_keeps_2 {Γ : q_G} {sz : Nat} {h' : q_H} (C : q_C Γ cX12_keeps RX12) (Rm : q_Rm Γ 2 0 0 0 0)  (K : q_K Γ cX12_keeps .return_ sz h' 0 0 [])  : ∀ (n : Nat) (h : q_H) (x0 : Nat) (x1 : Int32), m_X12_keeps_2 n h x0 x1 = some h' → q_V Γ sz 0 0 h [(0, .ref x0), (1, .int x1)] [] 2 := by
  intro n
  induction n with
  | zero => intro h x0 x1 hm; cases hm
  | succ n ih =>
    intro h x0 x1 hm
    unfold m_X12_keeps_2 at hm
    refine q_iload_n C (k4 := 1) 1 rfl (by decide +kernel) ?_
    refine q_bipush C (n := 42) (v := 42) (by decide) (by decide +kernel) ?_
    refine q_icmp_ge C (off := 24) 29 hm (by decide +kernel) (by decide) (fun _ hm => ?_) (fun _ hm => ?_)
    · exact q_rvS hm K (by decide +kernel)
    · refine q_aload_n C (k4 := 0) 0 rfl (by decide +kernel) ?_
      refine q_getn C fl_12_55 hm (by decide +kernel) (fun v1 hm => ?_)
      refine q_iload_n C (k4 := 1) 1 rfl (by decide +kernel) ?_
      refine q_aload_n C (k4 := 0) 0 rfl (by decide +kernel) ?_
      refine q_getn C fl_12_39 hm (by decide +kernel) (fun v2 hm => ?_)
      refine q_bipush C (n := 10) (v := 10) (by decide) (by decide +kernel) ?_
      refine q_iload_n C (k4 := 1) 1 rfl (by decide +kernel) ?_
      refine q_iadd C (by decide +kernel) ?_
      refine q_ir C hm (by decide +kernel) (fun v3 hm => ?_)
      refine q_iw C hm (by decide +kernel) (fun h4 hm => ?_)
      refine q_iinc C Rm.1 (i := 1) (n := 1) (v := (x1 + (1 : Int32))) 1 rfl (q_inc _ (by decide)) (lv' := [(1, .int ((x1 + (1 : Int32)))), (0, .ref x0)]) rfl (by decide) (by decide +kernel) ?_
      refine q_goto C (off := -24) 2 (by decide +kernel) (by decide) ?_
      refine q_loc [1, 0] rfl ?_
      exact ih _ _ _ hm
def m_X12_keeps (h : q_H) (a0 : Nat) : Option q_H :=
  m_X12_keeps_2 q_fu h a0 ((0 : Int32))
set_option maxRecDepth 20000 in
set_option maxHeartbeats 1000000 in
theorem c_X12_keeps (l : Launch) (base : Nat) (D : va_G) (tc : Nat → ClassId) (sz : Nat) (h : q_H) (a0 : Nat) {h' : q_H} (hm : m_X12_keeps h a0 = some h') : q_M l yX12_keeps cX12_keeps 2 none 0 0 0 0 base D tc [.ref a0] sz h none sz h' := by
  refine q_startv (by decide) (Nat.le_of_ble_eq_true rfl) (fun Γ B K => ?_)
  obtain ⟨C, Rm, -⟩ := B
  have C : q_C Γ cX12_keeps RX12 := C
  show q_V Γ sz 0 0 h [(0, .ref a0)] [] 0
  unfold m_X12_keeps at hm
  refine q_iconst C (n := 0) (v := 0) (by decide) (by decide +kernel) ?_
  refine q_istore_n C Rm.1 (k4 := 1) (i := 1) rfl (lv' := [(1, .int ((0 : Int32))), (0, .ref a0)]) rfl (by decide) (by decide +kernel) ?_
  refine q_loc [1, 0] rfl ?_
  exact v_X12_keeps_2 C Rm K _ _ _ _ hm
def m_X12_laysBack_2  : Nat → q_H → Nat → Int32 → Option q_H
  | 0, _, _, _ => none
  | n + 1, h, x0, x1 =>
    if (42 : Int32) ≤ x1 then
      some h
    else
      (q_gn h x0 12 20).bind fun v1 =>
      (q_gn h x0 12 27).bind fun v2 =>
      (q_ai h v2 1 x1).bind fun v3 =>
      (q_si h v1 1 (((10 : Int32) + x1)) v3).bind fun h4 =>
      m_X12_laysBack_2 n h4 x0 ((x1 + (1 : Int32)))
set_option maxRecDepth 20000 in
set_option maxHeartbeats 1000000 in
theorem v_X12_laysBack_2 {Γ : q_G} {sz : Nat} {h' : q_H} (C : q_C Γ cX12_laysBack RX12) (Rm : q_Rm Γ 2 0 0 0 0)  (K : q_K Γ cX12_laysBack .return_ sz h' 0 0 [])  : ∀ (n : Nat) (h : q_H) (x0 : Nat) (x1 : Int32), m_X12_laysBack_2 n h x0 x1 = some h' → q_V Γ sz 0 0 h [(0, .ref x0), (1, .int x1)] [] 2 := by
  intro n
  induction n with
  | zero => intro h x0 x1 hm; cases hm
  | succ n ih =>
    intro h x0 x1 hm
    unfold m_X12_laysBack_2 at hm
    refine q_iload_n C (k4 := 1) 1 rfl (by decide +kernel) ?_
    refine q_bipush C (n := 42) (v := 42) (by decide) (by decide +kernel) ?_
    refine q_icmp_ge C (off := 24) 29 hm (by decide +kernel) (by decide) (fun _ hm => ?_) (fun _ hm => ?_)
    · exact q_rvS hm K (by decide +kernel)
    · refine q_aload_n C (k4 := 0) 0 rfl (by decide +kernel) ?_
      refine q_getn C fl_12_39 hm (by decide +kernel) (fun v1 hm => ?_)
      refine q_bipush C (n := 10) (v := 10) (by decide) (by decide +kernel) ?_
      refine q_iload_n C (k4 := 1) 1 rfl (by decide +kernel) ?_
      refine q_iadd C (by decide +kernel) ?_
      refine q_aload_n C (k4 := 0) 0 rfl (by decide +kernel) ?_
      refine q_getn C fl_12_55 hm (by decide +kernel) (fun v2 hm => ?_)
      refine q_iload_n C (k4 := 1) 1 rfl (by decide +kernel) ?_
      refine q_ir C hm (by decide +kernel) (fun v3 hm => ?_)
      refine q_iw C hm (by decide +kernel) (fun h4 hm => ?_)
      refine q_iinc C Rm.1 (i := 1) (n := 1) (v := (x1 + (1 : Int32))) 1 rfl (q_inc _ (by decide)) (lv' := [(1, .int ((x1 + (1 : Int32)))), (0, .ref x0)]) rfl (by decide) (by decide +kernel) ?_
      refine q_goto C (off := -24) 2 (by decide +kernel) (by decide) ?_
      refine q_loc [1, 0] rfl ?_
      exact ih _ _ _ hm
def m_X12_laysBack (h : q_H) (a0 : Nat) : Option q_H :=
  m_X12_laysBack_2 q_fu h a0 ((0 : Int32))
set_option maxRecDepth 20000 in
set_option maxHeartbeats 1000000 in
theorem c_X12_laysBack (l : Launch) (base : Nat) (D : va_G) (tc : Nat → ClassId) (sz : Nat) (h : q_H) (a0 : Nat) {h' : q_H} (hm : m_X12_laysBack h a0 = some h') : q_M l yX12_laysBack cX12_laysBack 2 none 0 0 0 0 base D tc [.ref a0] sz h none sz h' := by
  refine q_startv (by decide) (Nat.le_of_ble_eq_true rfl) (fun Γ B K => ?_)
  obtain ⟨C, Rm, -⟩ := B
  have C : q_C Γ cX12_laysBack RX12 := C
  show q_V Γ sz 0 0 h [(0, .ref a0)] [] 0
  unfold m_X12_laysBack at hm
  refine q_iconst C (n := 0) (v := 0) (by decide) (by decide +kernel) ?_
  refine q_istore_n C Rm.1 (k4 := 1) (i := 1) rfl (lv' := [(1, .int ((0 : Int32))), (0, .ref a0)]) rfl (by decide) (by decide +kernel) ?_
  refine q_loc [1, 0] rfl ?_
  exact v_X12_laysBack_2 C Rm K _ _ _ _ hm
def m_X12_ahead_83  (h : q_H) (x0 : Nat) (s0 : Int32) : Option (Int32 × q_H) :=
  (q_ca 12 h x0 (m_X12_laysBack h x0)).bind fun h20 =>
  some (s0, h20)
set_option maxRecDepth 20000 in
set_option maxHeartbeats 1000000 in
theorem v_X12_ahead_83 {Γ : q_G} {sz : Nat} {r : Int32} {h' : q_H} (C : q_C Γ cX12_ahead RX12) (Rm : q_Rm Γ 5 7 166 0 0)  (K : narrow .int (.int r) = .int r → q_K Γ cX12_ahead .ireturn sz h' 0 0 [.int r])  : ∀ (h : q_H) (x0 : Nat) (s0 : Int32), m_X12_ahead_83 h x0 s0 = some (r, h') → q_V Γ sz 0 0 h [(0, .ref x0)] [.int s0] 83 := by
  intro h x0 s0 hm
  unfold m_X12_ahead_83 at hm
  refine q_istore C Rm.1 (i := 4) (lv' := [(4, .int s0), (0, .ref x0)]) rfl (by decide) (by decide +kernel) ?_
  refine q_aload_n C (k4 := 0) 1 rfl (by decide +kernel) ?_
  refine q_vvS C Rm (As := []) (rest := []) Y_X12_laysBack Yv_X12_laysBack ml_X12_389 (by decide) (by decide) hm (fun h20 e9 => c_X12_laysBack _ _ _ _ _ _ _ e9) rfl rfl (Nat.le_of_ble_eq_true rfl) (by decide +kernel) (fun h20 hm => ?_)
  refine q_iload C (i := 4) 0 rfl (by decide +kernel) ?_
  exact q_riS hm K rfl (by decide +kernel)
def m_X12_ahead_46  (h : q_H) (x0 : Nat) (x1 : Int32) (x2 : Int32) (x3 : Int32) : Option (Int32 × q_H) :=
  (q_ca 12 h x0 (m_X12_keeps h x0)).bind fun h10 =>
  (q_ca 12 h10 x0 (m_X12_passesAll h10 x0 x2)).bind fun h12 =>
  if x3 = 0 then
    (q_ca 12 h12 x0 (m_X12_ribbon h12 x0)).bind fun r17 =>
    m_X12_ahead_83 h12 x0 r17
  else
    if x3 = (1 : Int32) then
      (q_ca 12 h12 x0 (m_X12_windOf h12 x0 x1)).bind fun r15 =>
      m_X12_ahead_83 h12 x0 r15
    else
      (q_ca 12 h12 x0 (m_X12_upOnes h12 x0)).bind fun r13 =>
      m_X12_ahead_83 h12 x0 r13
set_option maxRecDepth 20000 in
set_option maxHeartbeats 1000000 in
theorem v_X12_ahead_46 {Γ : q_G} {sz : Nat} {r : Int32} {h' : q_H} (C : q_C Γ cX12_ahead RX12) (Rm : q_Rm Γ 5 7 166 0 0)  (K : narrow .int (.int r) = .int r → q_K Γ cX12_ahead .ireturn sz h' 0 0 [.int r])  : ∀ (h : q_H) (x0 : Nat) (x1 : Int32) (x2 : Int32) (x3 : Int32), m_X12_ahead_46 h x0 x1 x2 x3 = some (r, h') → q_V Γ sz 0 0 h [(0, .ref x0), (1, .int x1), (2, .int x2), (3, .int x3)] [] 46 := by
  intro h x0 x1 x2 x3 hm
  unfold m_X12_ahead_46 at hm
  refine q_aload_n C (k4 := 0) 0 rfl (by decide +kernel) ?_
  refine q_vvS C Rm (As := []) (rest := []) Y_X12_keeps Yv_X12_keeps ml_X12_383 (by decide) (by decide) hm (fun h10 e9 => c_X12_keeps _ _ _ _ _ _ _ e9) rfl rfl (Nat.le_of_ble_eq_true rfl) (by decide +kernel) (fun h10 hm => ?_)
  refine q_aload_n C (k4 := 0) 0 rfl (by decide +kernel) ?_
  refine q_iload_n C (k4 := 2) 2 rfl (by decide +kernel) ?_
  refine q_vvS C Rm (As := [.int x2]) (rest := []) Y_X12_passesAll Yv_X12_passesAll ml_X12_386 (by decide) (by decide) hm (fun h12 e9 => c_X12_passesAll _ _ _ _ _ _ _ _ e9) rfl rfl (Nat.le_of_ble_eq_true rfl) (by decide +kernel) (fun h12 hm => ?_)
  refine q_iload_n C (k4 := 3) 3 rfl (by decide +kernel) ?_
  refine q_if_ne C (off := 10) 66 hm (by decide +kernel) (by decide) (fun _ hm => ?_) (fun _ hm => ?_)
  · refine q_iload_n C (k4 := 3) 3 rfl (by decide +kernel) ?_
    refine q_iconst C (n := 1) (v := 1) (by decide) (by decide +kernel) ?_
    refine q_icmp_ne C (off := 11) 79 hm (by decide +kernel) (by decide) (fun _ hm => ?_) (fun _ hm => ?_)
    · refine q_aload_n C (k4 := 0) 0 rfl (by decide +kernel) ?_
      refine q_viP C Rm (As := []) (rest := []) Y_X12_upOnes Yv_X12_upOnes ml_X12_306 (by decide) (by decide) hm (fun r9 e9 => c_X12_upOnes _ _ _ _ _ _ _ e9) rfl rfl (Nat.le_of_ble_eq_true rfl) (by decide +kernel) (fun r13 hm z14 => ?_)
      refine q_loc [0] rfl ?_
      exact v_X12_ahead_83 C Rm K _ _ _ hm
    · refine q_aload_n C (k4 := 0) 0 rfl (by decide +kernel) ?_
      refine q_iload_n C (k4 := 1) 1 rfl (by decide +kernel) ?_
      refine q_viP C Rm (As := [.int x1]) (rest := []) Y_X12_windOf Yv_X12_windOf ml_X12_293 (by decide) (by decide) hm (fun r9 e9 => c_X12_windOf _ _ _ _ _ _ _ _ e9) rfl rfl (Nat.le_of_ble_eq_true rfl) (by decide +kernel) (fun r15 hm z16 => ?_)
      refine q_goto C (off := 7) 83 (by decide +kernel) (by decide) ?_
      refine q_loc [0] rfl ?_
      exact v_X12_ahead_83 C Rm K _ _ _ hm
  · refine q_aload_n C (k4 := 0) 0 rfl (by decide +kernel) ?_
    refine q_viP C Rm (As := []) (rest := []) Y_X12_ribbon Yv_X12_ribbon ml_X12_353 (by decide) (by decide) hm (fun r9 e9 => c_X12_ribbon _ _ _ _ _ _ _ e9) rfl rfl (Nat.le_of_ble_eq_true rfl) (by decide +kernel) (fun r17 hm z18 => ?_)
    refine q_goto C (off := 20) 83 (by decide +kernel) (by decide) ?_
    refine q_loc [0] rfl ?_
    exact v_X12_ahead_83 C Rm K _ _ _ hm
def m_X12_ahead (h : q_H) (a0 : Nat) (a1 : Int32) (a2 : Int32) (a3 : Int32) : Option (Int32 × q_H) :=
  (q_ca 12 h a0 (m_X12_isRope h a0)).bind fun r1 =>
  if r1 = 0 then
    some ((-1 : Int32), h)
  else
    (m_X12_in a2.toInt64 ((0 : Int64)) ((100 : Int64))).bind fun r3 =>
    if r3 = 0 then
      some ((-1 : Int32), h)
    else
      (m_X12_in a3.toInt64 ((0 : Int64)) ((2 : Int64))).bind fun r5 =>
      if r5 = 0 then
        some ((-1 : Int32), h)
      else
        if a3 = (1 : Int32) then
          (q_ca 12 h a0 (m_X12_isPuller h a0 a1)).bind fun r7 =>
          if r7 = 0 then
            some ((-1 : Int32), h)
          else
            m_X12_ahead_46 h a0 a1 a2 a3
        else
          m_X12_ahead_46 h a0 a1 a2 a3
set_option maxRecDepth 20000 in
set_option maxHeartbeats 1000000 in
theorem c_X12_ahead (l : Launch) (base : Nat) (D : va_G) (tc : Nat → ClassId) (sz : Nat) (h : q_H) (a0 : Nat) (a1 : Int32) (a2 : Int32) (a3 : Int32) {r : Int32} {h' : q_H} (hm : m_X12_ahead h a0 a1 a2 a3 = some (r, h')) : q_M l yX12_ahead cX12_ahead 5 (some .int) 7 166 0 0 base D tc [.ref a0, .int a1, .int a2, .int a3] sz h (some (.int r)) sz h' := by
  refine q_starti (by decide) (Nat.le_of_ble_eq_true rfl) (fun Γ B K => ?_)
  obtain ⟨C, Rm, -⟩ := B
  have C : q_C Γ cX12_ahead RX12 := C
  show q_V Γ sz 0 0 h [(0, .ref a0), (1, .int a1), (2, .int a2), (3, .int a3)] [] 0
  unfold m_X12_ahead at hm
  refine q_aload_n C (k4 := 0) 0 rfl (by decide +kernel) ?_
  refine q_viP C Rm (As := []) (rest := []) Y_X12_isRope Yv_X12_isRope ml_X12_299 (by decide) (by decide) hm (fun r9 e9 => c_X12_isRope _ _ _ _ _ _ _ e9) rfl rfl (Nat.le_of_ble_eq_true rfl) (by decide +kernel) (fun r1 hm z2 => ?_)
  refine q_if_eq C (off := 40) 44 hm (by decide +kernel) (by decide) (fun _ hm => ?_) (fun _ hm => ?_)
  · refine q_iconst C (n := (-1)) (v := (-1)) (by decide) (by decide +kernel) ?_
    exact q_riS hm K rfl (by decide +kernel)
  · refine q_iload_n C (k4 := 2) 2 rfl (by decide +kernel) ?_
    refine q_i2l C (by decide +kernel) ?_
    refine q_lconst C (n := 0) (v := 0) (by decide) (by decide +kernel) ?_
    refine q_ldc2 C (idx := 379) (v := 100) (q_m7 122 rfl rfl) (by decide +kernel) ?_
    refine q_siP C Rm (As := [.long a2.toInt64, .long ((0 : Int64)), .long ((100 : Int64))]) (rest := []) Y_X12_in Ys_X12_in ml_X12_121 (by decide) (by decide) hm (fun r9 e9 => c_X12_in _ _ _ _ _ _ _ _ _ e9) rfl rfl (Nat.le_of_ble_eq_true rfl) (by decide +kernel) (fun r3 hm z4 => ?_)
    refine q_if_eq C (off := 28) 44 hm (by decide +kernel) (by decide) (fun _ hm => ?_) (fun _ hm => ?_)
    · refine q_iconst C (n := (-1)) (v := (-1)) (by decide) (by decide +kernel) ?_
      exact q_riS hm K rfl (by decide +kernel)
    · refine q_iload_n C (k4 := 3) 3 rfl (by decide +kernel) ?_
      refine q_i2l C (by decide +kernel) ?_
      refine q_lconst C (n := 0) (v := 0) (by decide) (by decide +kernel) ?_
      refine q_ldc2 C (idx := 381) (v := 2) (q_m7 123 rfl rfl) (by decide +kernel) ?_
      refine q_siP C Rm (As := [.long a3.toInt64, .long ((0 : Int64)), .long ((2 : Int64))]) (rest := []) Y_X12_in Ys_X12_in ml_X12_121 (by decide) (by decide) hm (fun r9 e9 => c_X12_in _ _ _ _ _ _ _ _ _ e9) rfl rfl (Nat.le_of_ble_eq_true rfl) (by decide +kernel) (fun r5 hm z6 => ?_)
      refine q_if_eq C (off := 16) 44 hm (by decide +kernel) (by decide) (fun _ hm => ?_) (fun _ hm => ?_)
      · refine q_iconst C (n := (-1)) (v := (-1)) (by decide) (by decide +kernel) ?_
        exact q_riS hm K rfl (by decide +kernel)
      · refine q_iload_n C (k4 := 3) 3 rfl (by decide +kernel) ?_
        refine q_iconst C (n := 1) (v := 1) (by decide) (by decide +kernel) ?_
        refine q_icmp_ne C (off := 13) 46 hm (by decide +kernel) (by decide) (fun _ hm => ?_) (fun _ hm => ?_)
        · exact v_X12_ahead_46 C Rm K _ _ _ _ _ hm
        · refine q_aload_n C (k4 := 0) 0 rfl (by decide +kernel) ?_
          refine q_iload_n C (k4 := 1) 1 rfl (by decide +kernel) ?_
          refine q_viP C Rm (As := [.int a1]) (rest := []) Y_X12_isPuller Yv_X12_isPuller ml_X12_278 (by decide) (by decide) hm (fun r9 e9 => c_X12_isPuller _ _ _ _ _ _ _ _ e9) rfl rfl (Nat.le_of_ble_eq_true rfl) (by decide +kernel) (fun r7 hm z8 => ?_)
          refine q_if_ne C (off := 5) 46 hm (by decide +kernel) (by decide) (fun _ hm => ?_) (fun _ hm => ?_)
          · exact v_X12_ahead_46 C Rm K _ _ _ _ _ hm
          · refine q_iconst C (n := (-1)) (v := (-1)) (by decide) (by decide +kernel) ?_
            exact q_riS hm K rfl (by decide +kernel)
def m_X12_over_82 (k28 : q_H → Nat → Int32 → Int32 → Int32 → Option (Int32 × q_H)) (h : q_H) (x0 : Nat) (x1 : Int32) (x2 : Int32) (x3 : Int32) : Option (Int32 × q_H) :=
  k28 h x0 x1 x2 ((x3 + (1 : Int32)))
set_option maxRecDepth 20000 in
set_option maxHeartbeats 1000000 in
theorem v_X12_over_82 {Γ : q_G} {sz : Nat} {r : Int32} {h' : q_H} (C : q_C Γ cX12_over RX12) (Rm : q_Rm Γ 4 6 144 0 0) {k28 : q_H → Nat → Int32 → Int32 → Int32 → Option (Int32 × q_H)} (K : narrow .int (.int r) = .int r → q_K Γ cX12_over .ireturn sz h' 0 0 [.int r]) (hk28 : ∀ (h : q_H) (x0 : Nat) (x1 : Int32) (x2 : Int32) (x3 : Int32), k28 h x0 x1 x2 x3 = some (r, h') → q_V Γ sz 0 0 h [(0, .ref x0), (1, .int x1), (2, .int x2), (3, .int x3)] [] 28) : ∀ (h : q_H) (x0 : Nat) (x1 : Int32) (x2 : Int32) (x3 : Int32), m_X12_over_82 k28 h x0 x1 x2 x3 = some (r, h') → q_V Γ sz 0 0 h [(0, .ref x0), (1, .int x1), (2, .int x2), (3, .int x3)] [] 82 := by
  intro h x0 x1 x2 x3 hm
  unfold m_X12_over_82 at hm
  refine q_iinc C Rm.1 (i := 3) (n := 1) (v := (x3 + (1 : Int32))) 3 rfl (q_inc _ (by decide)) (lv' := [(3, .int ((x3 + (1 : Int32)))), (0, .ref x0), (1, .int x1), (2, .int x2)]) rfl (by decide) (by decide +kernel) ?_
  refine q_goto C (off := -57) 28 (by decide +kernel) (by decide) ?_
  refine q_loc [1, 2, 3, 0] rfl ?_
  exact hk28 _ _ _ _ _ hm
def m_X12_over_81 (k28 : q_H → Nat → Int32 → Int32 → Int32 → Option (Int32 × q_H)) (h : q_H) (x0 : Nat) (x1 : Int32) (x3 : Int32) (s0 : Int32) : Option (Int32 × q_H) :=
  m_X12_over_82 k28 h x0 x1 s0 x3
set_option maxRecDepth 20000 in
set_option maxHeartbeats 1000000 in
theorem v_X12_over_81 {Γ : q_G} {sz : Nat} {r : Int32} {h' : q_H} (C : q_C Γ cX12_over RX12) (Rm : q_Rm Γ 4 6 144 0 0) {k28 : q_H → Nat → Int32 → Int32 → Int32 → Option (Int32 × q_H)} (K : narrow .int (.int r) = .int r → q_K Γ cX12_over .ireturn sz h' 0 0 [.int r]) (hk28 : ∀ (h : q_H) (x0 : Nat) (x1 : Int32) (x2 : Int32) (x3 : Int32), k28 h x0 x1 x2 x3 = some (r, h') → q_V Γ sz 0 0 h [(0, .ref x0), (1, .int x1), (2, .int x2), (3, .int x3)] [] 28) : ∀ (h : q_H) (x0 : Nat) (x1 : Int32) (x3 : Int32) (s0 : Int32), m_X12_over_81 k28 h x0 x1 x3 s0 = some (r, h') → q_V Γ sz 0 0 h [(0, .ref x0), (1, .int x1), (3, .int x3)] [.int s0] 81 := by
  intro h x0 x1 x3 s0 hm
  unfold m_X12_over_81 at hm
  refine q_istore_n C Rm.1 (k4 := 2) (i := 2) rfl (lv' := [(2, .int s0), (0, .ref x0), (1, .int x1), (3, .int x3)]) rfl (by decide) (by decide +kernel) ?_
  refine q_loc [1, 2, 0, 3] rfl ?_
  exact v_X12_over_82 C Rm K hk28 _ _ _ _ _ hm
def m_X12_over_88  (h : q_H) (x0 : Nat) (x2 : Int32) : Option (Int32 × q_H) :=
  (q_ca 12 h x0 (m_X12_laysBack h x0)).bind fun h16 =>
  some (x2, h16)
set_option maxRecDepth 20000 in
set_option maxHeartbeats 1000000 in
theorem v_X12_over_88 {Γ : q_G} {sz : Nat} {r : Int32} {h' : q_H} (C : q_C Γ cX12_over RX12) (Rm : q_Rm Γ 4 6 144 0 0)  (K : narrow .int (.int r) = .int r → q_K Γ cX12_over .ireturn sz h' 0 0 [.int r])  : ∀ (h : q_H) (x0 : Nat) (x2 : Int32), m_X12_over_88 h x0 x2 = some (r, h') → q_V Γ sz 0 0 h [(0, .ref x0), (2, .int x2)] [] 88 := by
  intro h x0 x2 hm
  unfold m_X12_over_88 at hm
  refine q_aload_n C (k4 := 0) 0 rfl (by decide +kernel) ?_
  refine q_vvS C Rm (As := []) (rest := []) Y_X12_laysBack Yv_X12_laysBack ml_X12_389 (by decide) (by decide) hm (fun h16 e9 => c_X12_laysBack _ _ _ _ _ _ _ e9) rfl rfl (Nat.le_of_ble_eq_true rfl) (by decide +kernel) (fun h16 hm => ?_)
  refine q_iload_n C (k4 := 2) 1 rfl (by decide +kernel) ?_
  exact q_riS hm K rfl (by decide +kernel)
def m_X12_over_28  : Nat → q_H → Nat → Int32 → Int32 → Int32 → Option (Int32 × q_H)
  | 0, _, _, _, _, _ => none
  | n + 1, h, x0, x1, x2, x3 =>
    if (200 : Int32) ≤ x3 then
      m_X12_over_88 h x0 x2
    else
      if 0 ≤ x2 then
        m_X12_over_88 h x0 x2
      else
        (q_ca 12 h x0 (m_X12_passes h x0)).bind fun h8 =>
        (q_ca 12 h8 x0 (m_X12_isOver h8 x0)).bind fun r9 =>
        if r9 = 0 then
          m_X12_over_82 (m_X12_over_28 n) h8 x0 x1 x2 x3
        else
          if x1 = 0 then
            (q_gn h8 x0 12 20).bind fun v13 =>
            (q_ai h8 v13 1 ((10 : Int32))).bind fun v14 =>
            m_X12_over_81 (m_X12_over_28 n) h8 x0 x1 x3 ((v14 - (1 : Int32)))
          else
            (q_gn h8 x0 12 20).bind fun v11 =>
            (q_ai h8 v11 1 ((11 : Int32))).bind fun v12 =>
            if 0 ≤ v12 then
              m_X12_over_81 (m_X12_over_28 n) h8 x0 x1 x3 ((1 : Int32))
            else
              m_X12_over_81 (m_X12_over_28 n) h8 x0 x1 x3 ((0 : Int32))
set_option maxRecDepth 20000 in
set_option maxHeartbeats 1000000 in
theorem v_X12_over_28 {Γ : q_G} {sz : Nat} {r : Int32} {h' : q_H} (C : q_C Γ cX12_over RX12) (Rm : q_Rm Γ 4 6 144 0 0)  (K : narrow .int (.int r) = .int r → q_K Γ cX12_over .ireturn sz h' 0 0 [.int r])  : ∀ (n : Nat) (h : q_H) (x0 : Nat) (x1 : Int32) (x2 : Int32) (x3 : Int32), m_X12_over_28 n h x0 x1 x2 x3 = some (r, h') → q_V Γ sz 0 0 h [(0, .ref x0), (1, .int x1), (2, .int x2), (3, .int x3)] [] 28 := by
  intro n
  induction n with
  | zero => intro h x0 x1 x2 x3 hm; cases hm
  | succ n ih =>
    intro h x0 x1 x2 x3 hm
    unfold m_X12_over_28 at hm
    refine q_iload_n C (k4 := 3) 3 rfl (by decide +kernel) ?_
    refine q_sipush C (n := 200) (v := 200) (by decide) (by decide +kernel) ?_
    refine q_icmp_ge C (off := 56) 88 hm (by decide +kernel) (by decide) (fun _ hm => ?_) (fun _ hm => ?_)
    · refine q_loc [0, 2] rfl ?_
      exact v_X12_over_88 C Rm K _ _ _ hm
    · refine q_iload_n C (k4 := 2) 2 rfl (by decide +kernel) ?_
      refine q_if_ge C (off := 52) 88 hm (by decide +kernel) (by decide) (fun _ hm => ?_) (fun _ hm => ?_)
      · refine q_loc [0, 2] rfl ?_
        exact v_X12_over_88 C Rm K _ _ _ hm
      · refine q_aload_n C (k4 := 0) 0 rfl (by decide +kernel) ?_
        refine q_vvS C Rm (As := []) (rest := []) Y_X12_passes Yv_X12_passes ml_X12_347 (by decide) (by decide) hm (fun h8 e9 => c_X12_passes _ _ _ _ _ _ _ e9) rfl rfl (Nat.le_of_ble_eq_true rfl) (by decide +kernel) (fun h8 hm => ?_)
        refine q_aload_n C (k4 := 0) 0 rfl (by decide +kernel) ?_
        refine q_viP C Rm (As := []) (rest := []) Y_X12_isOver Yv_X12_isOver ml_X12_335 (by decide) (by decide) hm (fun r9 e9 => c_X12_isOver _ _ _ _ _ _ _ e9) rfl rfl (Nat.le_of_ble_eq_true rfl) (by decide +kernel) (fun r9 hm z10 => ?_)
        refine q_if_eq C (off := 35) 82 hm (by decide +kernel) (by decide) (fun _ hm => ?_) (fun _ hm => ?_)
        · exact v_X12_over_82 C Rm K ih _ _ _ _ _ hm
        · refine q_iload_n C (k4 := 1) 1 rfl (by decide +kernel) ?_
          refine q_if_ne C (off := 15) 66 hm (by decide +kernel) (by decide) (fun _ hm => ?_) (fun _ hm => ?_)
          · refine q_aload_n C (k4 := 0) 0 rfl (by decide +kernel) ?_
            refine q_getn C fl_12_39 hm (by decide +kernel) (fun v11 hm => ?_)
            refine q_bipush C (n := 11) (v := 11) (by decide) (by decide +kernel) ?_
            refine q_ir C hm (by decide +kernel) (fun v12 hm => ?_)
            refine q_if_ge C (off := 7) 80 hm (by decide +kernel) (by decide) (fun _ hm => ?_) (fun _ hm => ?_)
            · refine q_iconst C (n := 1) (v := 1) (by decide) (by decide +kernel) ?_
              refine q_loc [0, 1, 3] rfl ?_
              exact v_X12_over_81 C Rm K ih _ _ _ _ _ hm
            · refine q_iconst C (n := 0) (v := 0) (by decide) (by decide +kernel) ?_
              refine q_goto C (off := 4) 81 (by decide +kernel) (by decide) ?_
              refine q_loc [0, 1, 3] rfl ?_
              exact v_X12_over_81 C Rm K ih _ _ _ _ _ hm
          · refine q_aload_n C (k4 := 0) 0 rfl (by decide +kernel) ?_
            refine q_getn C fl_12_39 hm (by decide +kernel) (fun v13 hm => ?_)
            refine q_bipush C (n := 10) (v := 10) (by decide) (by decide +kernel) ?_
            refine q_ir C hm (by decide +kernel) (fun v14 hm => ?_)
            refine q_iconst C (n := 1) (v := 1) (by decide) (by decide +kernel) ?_
            refine q_isub C (by decide +kernel) ?_
            refine q_goto C (off := 18) 81 (by decide +kernel) (by decide) ?_
            refine q_loc [0, 1, 3] rfl ?_
            exact v_X12_over_81 C Rm K ih _ _ _ _ _ hm
def m_X12_over (h : q_H) (a0 : Nat) (a1 : Int32) : Option (Int32 × q_H) :=
  (q_ca 12 h a0 (m_X12_isRope h a0)).bind fun r1 =>
  if r1 = 0 then
    some ((-1 : Int32), h)
  else
    (m_X12_in a1.toInt64 ((0 : Int64)) ((1 : Int64))).bind fun r3 =>
    if r3 = 0 then
      some ((-1 : Int32), h)
    else
      (q_ca 12 h a0 (m_X12_keeps h a0)).bind fun h6 =>
      m_X12_over_28 q_fu h6 a0 a1 ((-2 : Int32)) ((0 : Int32))
set_option maxRecDepth 20000 in
set_option maxHeartbeats 1000000 in
theorem c_X12_over (l : Launch) (base : Nat) (D : va_G) (tc : Nat → ClassId) (sz : Nat) (h : q_H) (a0 : Nat) (a1 : Int32) {r : Int32} {h' : q_H} (hm : m_X12_over h a0 a1 = some (r, h')) : q_M l yX12_over cX12_over 4 (some .int) 6 144 0 0 base D tc [.ref a0, .int a1] sz h (some (.int r)) sz h' := by
  refine q_starti (by decide) (Nat.le_of_ble_eq_true rfl) (fun Γ B K => ?_)
  obtain ⟨C, Rm, -⟩ := B
  have C : q_C Γ cX12_over RX12 := C
  show q_V Γ sz 0 0 h [(0, .ref a0), (1, .int a1)] [] 0
  unfold m_X12_over at hm
  refine q_aload_n C (k4 := 0) 0 rfl (by decide +kernel) ?_
  refine q_viP C Rm (As := []) (rest := []) Y_X12_isRope Yv_X12_isRope ml_X12_299 (by decide) (by decide) hm (fun r9 e9 => c_X12_isRope _ _ _ _ _ _ _ e9) rfl rfl (Nat.le_of_ble_eq_true rfl) (by decide +kernel) (fun r1 hm z2 => ?_)
  refine q_if_eq C (off := 13) 17 hm (by decide +kernel) (by decide) (fun _ hm => ?_) (fun _ hm => ?_)
  · refine q_iconst C (n := (-1)) (v := (-1)) (by decide) (by decide +kernel) ?_
    exact q_riS hm K rfl (by decide +kernel)
  · refine q_iload_n C (k4 := 1) 1 rfl (by decide +kernel) ?_
    refine q_i2l C (by decide +kernel) ?_
    refine q_lconst C (n := 0) (v := 0) (by decide) (by decide +kernel) ?_
    refine q_lconst C (n := 1) (v := 1) (by decide) (by decide +kernel) ?_
    refine q_siP C Rm (As := [.long a1.toInt64, .long ((0 : Int64)), .long ((1 : Int64))]) (rest := []) Y_X12_in Ys_X12_in ml_X12_121 (by decide) (by decide) hm (fun r9 e9 => c_X12_in _ _ _ _ _ _ _ _ _ e9) rfl rfl (Nat.le_of_ble_eq_true rfl) (by decide +kernel) (fun r3 hm z4 => ?_)
    refine q_if_ne C (off := 5) 19 hm (by decide +kernel) (by decide) (fun _ hm => ?_) (fun _ hm => ?_)
    · refine q_bipush C (n := (-2)) (v := (-2)) (by decide) (by decide +kernel) ?_
      refine q_istore_n C Rm.1 (k4 := 2) (i := 2) rfl (lv' := [(2, .int ((-2 : Int32))), (0, .ref a0), (1, .int a1)]) rfl (by decide) (by decide +kernel) ?_
      refine q_aload_n C (k4 := 0) 1 rfl (by decide +kernel) ?_
      refine q_vvS C Rm (As := []) (rest := []) Y_X12_keeps Yv_X12_keeps ml_X12_383 (by decide) (by decide) hm (fun h6 e9 => c_X12_keeps _ _ _ _ _ _ _ e9) rfl rfl (Nat.le_of_ble_eq_true rfl) (by decide +kernel) (fun h6 hm => ?_)
      refine q_iconst C (n := 0) (v := 0) (by decide) (by decide +kernel) ?_
      refine q_istore_n C Rm.1 (k4 := 3) (i := 3) rfl (lv' := [(3, .int ((0 : Int32))), (2, .int ((-2 : Int32))), (0, .ref a0), (1, .int a1)]) rfl (by decide) (by decide +kernel) ?_
      refine q_loc [2, 3, 1, 0] rfl ?_
      exact v_X12_over_28 C Rm K _ _ _ _ _ _ hm
    · refine q_iconst C (n := (-1)) (v := (-1)) (by decide) (by decide +kernel) ?_
      exact q_riS hm K rfl (by decide +kernel)
def m_X12_placeOfFour (a0 : Int32) (a1 : Int32) : Option Int32 :=
  some (((1 : Int32) <<< (((2 : Int32) * ((a0 - (1 : Int32)) - a1)) &&& 31)))
set_option maxRecDepth 20000 in
set_option maxHeartbeats 1000000 in
theorem c_X12_placeOfFour (l : Launch) (base : Nat) (D : va_G) (tc : Nat → ClassId) (sz : Nat) (h0 : q_H) (a0 : Int32) (a1 : Int32) {r : Int32} (hm : m_X12_placeOfFour a0 a1 = some r) : q_M l yX12_placeOfFour cX12_placeOfFour 2 (some .int) 0 0 0 0 base D tc [.int a0, .int a1] sz h0 (some (.int r)) sz h0 := by
  refine q_starti (by decide) (Nat.le_of_ble_eq_true rfl) (fun Γ B K => ?_)
  obtain ⟨C, Rm, -⟩ := B
  have C : q_C Γ cX12_placeOfFour RX12 := C
  show q_V Γ sz 0 0 h0 [(0, .int a0), (1, .int a1)] [] 0
  unfold m_X12_placeOfFour at hm
  refine q_iconst C (n := 1) (v := 1) (by decide) (by decide +kernel) ?_
  refine q_iconst C (n := 2) (v := 2) (by decide) (by decide +kernel) ?_
  refine q_iload_n C (k4 := 0) 0 rfl (by decide +kernel) ?_
  refine q_iconst C (n := 1) (v := 1) (by decide) (by decide +kernel) ?_
  refine q_isub C (by decide +kernel) ?_
  refine q_iload_n C (k4 := 1) 1 rfl (by decide +kernel) ?_
  refine q_isub C (by decide +kernel) ?_
  refine q_imul C (by decide +kernel) ?_
  refine q_ishl C (by decide +kernel) ?_
  exact q_riP hm K rfl (by decide +kernel)
def m_X12_farBy_3  : Nat → q_H → Nat → Int32 → Int32 → Int32 → Int32 → Option (Int32 × q_H)
  | 0, _, _, _, _, _, _ => none
  | n + 1, h, x0, x1, x2, x3, x4 =>
    if x2 ≤ x4 then
      (q_gn h x0 12 23).bind fun v1 =>
      (q_si h v1 1 x1 ((-1 : Int32))).bind fun h2 =>
      (q_ca 12 h2 x0 (m_X12_towards h2 x0 x1)).bind fun r3 =>
      (q_ca 12 h2 x0 (m_X12_laysBack h2 x0)).bind fun h6 =>
      some (r3, h6)
    else
      (q_gn h x0 12 23).bind fun v7 =>
      (m_X12_placeOfFour x2 x4).bind fun r8 =>
      if r8 = 0 then none else
      (q_si h v7 1 x1 ((q_rmi ((x3 / r8)) ((4 : Int32))))).bind fun h10 =>
      (q_ca 12 h10 x0 (m_X12_passes h10 x0)).bind fun h12 =>
      m_X12_farBy_3 n h12 x0 x1 x2 x3 ((x4 + (1 : Int32)))
set_option maxRecDepth 20000 in
set_option maxHeartbeats 1000000 in
theorem v_X12_farBy_3 {Γ : q_G} {sz : Nat} {r : Int32} {h' : q_H} (C : q_C Γ cX12_farBy RX12) (Rm : q_Rm Γ 5 6 144 0 0)  (K : narrow .int (.int r) = .int r → q_K Γ cX12_farBy .ireturn sz h' 0 0 [.int r])  : ∀ (n : Nat) (h : q_H) (x0 : Nat) (x1 : Int32) (x2 : Int32) (x3 : Int32) (x4 : Int32), m_X12_farBy_3 n h x0 x1 x2 x3 x4 = some (r, h') → q_V Γ sz 0 0 h [(0, .ref x0), (1, .int x1), (2, .int x2), (3, .int x3), (4, .int x4)] [] 3 := by
  intro n
  induction n with
  | zero => intro h x0 x1 x2 x3 x4 hm; cases hm
  | succ n ih =>
    intro h x0 x1 x2 x3 x4 hm
    unfold m_X12_farBy_3 at hm
    refine q_iload C (i := 4) 4 rfl (by decide +kernel) ?_
    refine q_iload_n C (k4 := 2) 2 rfl (by decide +kernel) ?_
    refine q_icmp_ge C (off := 29) 35 hm (by decide +kernel) (by decide) (fun _ hm => ?_) (fun _ hm => ?_)
    · refine q_aload_n C (k4 := 0) 0 rfl (by decide +kernel) ?_
      refine q_getn C fl_12_46 hm (by decide +kernel) (fun v1 hm => ?_)
      refine q_iload_n C (k4 := 1) 1 rfl (by decide +kernel) ?_
      refine q_iconst C (n := (-1)) (v := (-1)) (by decide) (by decide +kernel) ?_
      refine q_iw C hm (by decide +kernel) (fun h2 hm => ?_)
      refine q_aload_n C (k4 := 0) 0 rfl (by decide +kernel) ?_
      refine q_iload_n C (k4 := 1) 1 rfl (by decide +kernel) ?_
      refine q_viP C Rm (As := [.int x1]) (rest := []) Y_X12_towards Yv_X12_towards ml_X12_315 (by decide) (by decide) hm (fun r9 e9 => c_X12_towards _ _ _ _ _ _ _ _ e9) rfl rfl (Nat.le_of_ble_eq_true rfl) (by decide +kernel) (fun r3 hm z4 => ?_)
      refine q_istore C Rm.1 (i := 4) (lv' := [(4, .int r3), (0, .ref x0), (1, .int x1), (2, .int x2), (3, .int x3)]) rfl (by decide) (by decide +kernel) ?_
      refine q_aload_n C (k4 := 0) 1 rfl (by decide +kernel) ?_
      refine q_vvS C Rm (As := []) (rest := []) Y_X12_laysBack Yv_X12_laysBack ml_X12_389 (by decide) (by decide) hm (fun h6 e9 => c_X12_laysBack _ _ _ _ _ _ _ e9) rfl rfl (Nat.le_of_ble_eq_true rfl) (by decide +kernel) (fun h6 hm => ?_)
      refine q_iload C (i := 4) 0 rfl (by decide +kernel) ?_
      exact q_riS hm K rfl (by decide +kernel)
    · refine q_aload_n C (k4 := 0) 0 rfl (by decide +kernel) ?_
      refine q_getn C fl_12_46 hm (by decide +kernel) (fun v7 hm => ?_)
      refine q_iload_n C (k4 := 1) 1 rfl (by decide +kernel) ?_
      refine q_iload_n C (k4 := 3) 3 rfl (by decide +kernel) ?_
      refine q_iload_n C (k4 := 2) 2 rfl (by decide +kernel) ?_
      refine q_iload C (i := 4) 4 rfl (by decide +kernel) ?_
      refine q_siP C Rm (As := [.int x2, .int x4]) (rest := [.int x3, .int x1, .ref v7]) Y_X12_placeOfFour Ys_X12_placeOfFour ml_X12_392 (by decide) (by decide) hm (fun r9 e9 => c_X12_placeOfFour _ _ _ _ _ _ _ _ e9) rfl rfl (Nat.le_of_ble_eq_true rfl) (by decide +kernel) (fun r8 hm z9 => ?_)
      refine q_idivc C hm (by decide +kernel) (fun hm => ?_)
      refine q_iconst C (n := 4) (v := 4) (by decide) (by decide +kernel) ?_
      refine q_irem C (by decide) (by decide +kernel) ?_
      refine q_iw C hm (by decide +kernel) (fun h10 hm => ?_)
      refine q_aload_n C (k4 := 0) 0 rfl (by decide +kernel) ?_
      refine q_vvS C Rm (As := []) (rest := []) Y_X12_passes Yv_X12_passes ml_X12_347 (by decide) (by decide) hm (fun h12 e9 => c_X12_passes _ _ _ _ _ _ _ e9) rfl rfl (Nat.le_of_ble_eq_true rfl) (by decide +kernel) (fun h12 hm => ?_)
      refine q_iinc C Rm.1 (i := 4) (n := 1) (v := (x4 + (1 : Int32))) 4 rfl (q_inc _ (by decide)) (lv' := [(4, .int ((x4 + (1 : Int32)))), (0, .ref x0), (1, .int x1), (2, .int x2), (3, .int x3)]) rfl (by decide) (by decide +kernel) ?_
      refine q_goto C (off := -29) 3 (by decide +kernel) (by decide) ?_
      refine q_loc [1, 2, 3, 4, 0] rfl ?_
      exact ih _ _ _ _ _ _ hm
def m_X12_farBy (h : q_H) (a0 : Nat) (a1 : Int32) (a2 : Int32) (a3 : Int32) : Option (Int32 × q_H) :=
  m_X12_farBy_3 q_fu h a0 a1 a2 a3 ((0 : Int32))
set_option maxRecDepth 20000 in
set_option maxHeartbeats 1000000 in
theorem c_X12_farBy (l : Launch) (base : Nat) (D : va_G) (tc : Nat → ClassId) (sz : Nat) (h : q_H) (a0 : Nat) (a1 : Int32) (a2 : Int32) (a3 : Int32) {r : Int32} {h' : q_H} (hm : m_X12_farBy h a0 a1 a2 a3 = some (r, h')) : q_M l yX12_farBy cX12_farBy 5 (some .int) 6 144 0 0 base D tc [.ref a0, .int a1, .int a2, .int a3] sz h (some (.int r)) sz h' := by
  refine q_starti (by decide) (Nat.le_of_ble_eq_true rfl) (fun Γ B K => ?_)
  obtain ⟨C, Rm, -⟩ := B
  have C : q_C Γ cX12_farBy RX12 := C
  show q_V Γ sz 0 0 h [(0, .ref a0), (1, .int a1), (2, .int a2), (3, .int a3)] [] 0
  unfold m_X12_farBy at hm
  refine q_iconst C (n := 0) (v := 0) (by decide) (by decide +kernel) ?_
  refine q_istore C Rm.1 (i := 4) (lv' := [(4, .int ((0 : Int32))), (0, .ref a0), (1, .int a1), (2, .int a2), (3, .int a3)]) rfl (by decide) (by decide +kernel) ?_
  refine q_loc [1, 2, 3, 4, 0] rfl ?_
  exact v_X12_farBy_3 C Rm K _ _ _ _ _ _ _ hm
def m_X12_row_91 (k48 : q_H → Nat → Int32 → Int32 → Int32 → Int32 → Int32 → Int32 → Option (Int32 × q_H)) (h : q_H) (x0 : Nat) (x1 : Int32) (x2 : Int32) (x3 : Int32) (x4 : Int32) (x5 : Int32) (x6 : Int32) : Option (Int32 × q_H) :=
  k48 h x0 x1 x2 x3 x4 x5 ((x6 + (1 : Int32)))
set_option maxRecDepth 20000 in
set_option maxHeartbeats 1000000 in
theorem v_X12_row_91 {Γ : q_G} {sz : Nat} {r : Int32} {h' : q_H} (C : q_C Γ cX12_row RX12) (Rm : q_Rm Γ 8 7 168 0 0) {k48 : q_H → Nat → Int32 → Int32 → Int32 → Int32 → Int32 → Int32 → Option (Int32 × q_H)} (K : narrow .int (.int r) = .int r → q_K Γ cX12_row .ireturn sz h' 0 0 [.int r]) (hk48 : ∀ (h : q_H) (x0 : Nat) (x1 : Int32) (x2 : Int32) (x3 : Int32) (x4 : Int32) (x5 : Int32) (x6 : Int32), k48 h x0 x1 x2 x3 x4 x5 x6 = some (r, h') → q_V Γ sz 0 0 h [(0, .ref x0), (1, .int x1), (2, .int x2), (3, .int x3), (4, .int x4), (5, .int x5), (6, .int x6)] [] 48) : ∀ (h : q_H) (x0 : Nat) (x1 : Int32) (x2 : Int32) (x3 : Int32) (x4 : Int32) (x5 : Int32) (x6 : Int32), m_X12_row_91 k48 h x0 x1 x2 x3 x4 x5 x6 = some (r, h') → q_V Γ sz 0 0 h [(0, .ref x0), (1, .int x1), (2, .int x2), (3, .int x3), (4, .int x4), (5, .int x5), (6, .int x6)] [] 91 := by
  intro h x0 x1 x2 x3 x4 x5 x6 hm
  unfold m_X12_row_91 at hm
  refine q_iinc C Rm.1 (i := 6) (n := 1) (v := (x6 + (1 : Int32))) 6 rfl (q_inc _ (by decide)) (lv' := [(6, .int ((x6 + (1 : Int32)))), (0, .ref x0), (1, .int x1), (2, .int x2), (3, .int x3), (4, .int x4), (5, .int x5)]) rfl (by decide) (by decide +kernel) ?_
  refine q_goto C (off := -46) 48 (by decide +kernel) (by decide) ?_
  refine q_loc [1, 2, 3, 4, 5, 6, 0] rfl ?_
  exact hk48 _ _ _ _ _ _ _ _ hm
def m_X12_row_83 (k48 : q_H → Nat → Int32 → Int32 → Int32 → Int32 → Int32 → Int32 → Option (Int32 × q_H)) (h : q_H) (x0 : Nat) (x1 : Int32) (x2 : Int32) (x3 : Int32) (x6 : Int32) (x7 : Int32) : Option (Int32 × q_H) :=
  m_X12_row_91 k48 h x0 x1 x2 x3 x6 x7 x6
set_option maxRecDepth 20000 in
set_option maxHeartbeats 1000000 in
theorem v_X12_row_83 {Γ : q_G} {sz : Nat} {r : Int32} {h' : q_H} (C : q_C Γ cX12_row RX12) (Rm : q_Rm Γ 8 7 168 0 0) {k48 : q_H → Nat → Int32 → Int32 → Int32 → Int32 → Int32 → Int32 → Option (Int32 × q_H)} (K : narrow .int (.int r) = .int r → q_K Γ cX12_row .ireturn sz h' 0 0 [.int r]) (hk48 : ∀ (h : q_H) (x0 : Nat) (x1 : Int32) (x2 : Int32) (x3 : Int32) (x4 : Int32) (x5 : Int32) (x6 : Int32), k48 h x0 x1 x2 x3 x4 x5 x6 = some (r, h') → q_V Γ sz 0 0 h [(0, .ref x0), (1, .int x1), (2, .int x2), (3, .int x3), (4, .int x4), (5, .int x5), (6, .int x6)] [] 48) : ∀ (h : q_H) (x0 : Nat) (x1 : Int32) (x2 : Int32) (x3 : Int32) (x6 : Int32) (x7 : Int32), m_X12_row_83 k48 h x0 x1 x2 x3 x6 x7 = some (r, h') → q_V Γ sz 0 0 h [(0, .ref x0), (1, .int x1), (2, .int x2), (3, .int x3), (6, .int x6), (7, .int x7)] [] 83 := by
  intro h x0 x1 x2 x3 x6 x7 hm
  unfold m_X12_row_83 at hm
  refine q_iload C (i := 6) 4 rfl (by decide +kernel) ?_
  refine q_istore C Rm.1 (i := 4) (lv' := [(4, .int x6), (0, .ref x0), (1, .int x1), (2, .int x2), (3, .int x3), (6, .int x6), (7, .int x7)]) rfl (by decide) (by decide +kernel) ?_
  refine q_iload C (i := 7) 6 rfl (by decide +kernel) ?_
  refine q_istore C Rm.1 (i := 5) (lv' := [(5, .int x7), (4, .int x6), (0, .ref x0), (1, .int x1), (2, .int x2), (3, .int x3), (6, .int x6), (7, .int x7)]) rfl (by decide) (by decide +kernel) ?_
  refine q_loc [2, 3, 4, 5, 1, 0, 6] rfl ?_
  exact v_X12_row_91 C Rm K hk48 _ _ _ _ _ _ _ _ hm
def m_X12_row_48  : Nat → q_H → Nat → Int32 → Int32 → Int32 → Int32 → Int32 → Int32 → Option (Int32 × q_H)
  | 0, _, _, _, _, _, _, _, _ => none
  | n + 1, h, x0, x1, x2, x3, x4, x5, x6 =>
    if ((1 : Int32) <<< (((2 : Int32) * x2) &&& 31)) ≤ x6 then
      if x3 = 0 then
        some ((x5 + (100 : Int32)), h)
      else
        if x2 < x3 then
          some ((-1 : Int32), h)
        else
          (m_X12_placeOfFour x2 ((x3 - (1 : Int32)))).bind fun r9 =>
          if r9 = 0 then none else
          some ((q_rmi ((x4 / r9)) ((4 : Int32))), h)
    else
      (q_ca 12 h x0 (m_X12_farBy h x0 x1 x2 x6)).bind fun (r11, h12) =>
      if x4 < 0 then
        m_X12_row_83 (m_X12_row_48 n) h12 x0 x1 x2 x3 x6 r11
      else
        if x5 < r11 then
          m_X12_row_83 (m_X12_row_48 n) h12 x0 x1 x2 x3 x6 r11
        else
          m_X12_row_91 (m_X12_row_48 n) h12 x0 x1 x2 x3 x4 x5 x6
set_option maxRecDepth 20000 in
set_option maxHeartbeats 1000000 in
theorem v_X12_row_48 {Γ : q_G} {sz : Nat} {r : Int32} {h' : q_H} (C : q_C Γ cX12_row RX12) (Rm : q_Rm Γ 8 7 168 0 0)  (K : narrow .int (.int r) = .int r → q_K Γ cX12_row .ireturn sz h' 0 0 [.int r])  : ∀ (n : Nat) (h : q_H) (x0 : Nat) (x1 : Int32) (x2 : Int32) (x3 : Int32) (x4 : Int32) (x5 : Int32) (x6 : Int32), m_X12_row_48 n h x0 x1 x2 x3 x4 x5 x6 = some (r, h') → q_V Γ sz 0 0 h [(0, .ref x0), (1, .int x1), (2, .int x2), (3, .int x3), (4, .int x4), (5, .int x5), (6, .int x6)] [] 48 := by
  intro n
  induction n with
  | zero => intro h x0 x1 x2 x3 x4 x5 x6 hm; cases hm
  | succ n ih =>
    intro h x0 x1 x2 x3 x4 x5 x6 hm
    unfold m_X12_row_48 at hm
    refine q_iload C (i := 6) 6 rfl (by decide +kernel) ?_
    refine q_iconst C (n := 1) (v := 1) (by decide) (by decide +kernel) ?_
    refine q_iconst C (n := 2) (v := 2) (by decide) (by decide +kernel) ?_
    refine q_iload_n C (k4 := 2) 2 rfl (by decide +kernel) ?_
    refine q_imul C (by decide +kernel) ?_
    refine q_ishl C (by decide +kernel) ?_
    refine q_icmp_ge C (off := 42) 97 hm (by decide +kernel) (by decide) (fun _ hm => ?_) (fun _ hm => ?_)
    · refine q_iload_n C (k4 := 3) 3 rfl (by decide +kernel) ?_
      refine q_if_ne C (off := 11) 109 hm (by decide +kernel) (by decide) (fun _ hm => ?_) (fun _ hm => ?_)
      · refine q_iload_n C (k4 := 3) 3 rfl (by decide +kernel) ?_
        refine q_iload_n C (k4 := 2) 2 rfl (by decide +kernel) ?_
        refine q_icmp_gt C (off := 18) 129 hm (by decide +kernel) (by decide) (fun _ hm => ?_) (fun _ hm => ?_)
        · refine q_iconst C (n := (-1)) (v := (-1)) (by decide) (by decide +kernel) ?_
          exact q_riS hm K rfl (by decide +kernel)
        · refine q_iload C (i := 4) 4 rfl (by decide +kernel) ?_
          refine q_iload_n C (k4 := 2) 2 rfl (by decide +kernel) ?_
          refine q_iload_n C (k4 := 3) 3 rfl (by decide +kernel) ?_
          refine q_iconst C (n := 1) (v := 1) (by decide) (by decide +kernel) ?_
          refine q_isub C (by decide +kernel) ?_
          refine q_siP C Rm (As := [.int x2, .int ((x3 - (1 : Int32)))]) (rest := [.int x4]) Y_X12_placeOfFour Ys_X12_placeOfFour ml_X12_392 (by decide) (by decide) hm (fun r9 e9 => c_X12_placeOfFour _ _ _ _ _ _ _ _ e9) rfl rfl (Nat.le_of_ble_eq_true rfl) (by decide +kernel) (fun r9 hm z10 => ?_)
          refine q_idivc C hm (by decide +kernel) (fun hm => ?_)
          refine q_iconst C (n := 4) (v := 4) (by decide) (by decide +kernel) ?_
          refine q_irem C (by decide) (by decide +kernel) ?_
          refine q_goto C (off := 4) 130 (by decide +kernel) (by decide) ?_
          exact q_riS hm K rfl (by decide +kernel)
      · refine q_iload C (i := 5) 5 rfl (by decide +kernel) ?_
        refine q_bipush C (n := 100) (v := 100) (by decide) (by decide +kernel) ?_
        refine q_iadd C (by decide +kernel) ?_
        refine q_goto C (off := 24) 130 (by decide +kernel) (by decide) ?_
        exact q_riS hm K rfl (by decide +kernel)
    · refine q_aload_n C (k4 := 0) 0 rfl (by decide +kernel) ?_
      refine q_iload_n C (k4 := 1) 1 rfl (by decide +kernel) ?_
      refine q_iload_n C (k4 := 2) 2 rfl (by decide +kernel) ?_
      refine q_iload C (i := 6) 6 rfl (by decide +kernel) ?_
      refine q_viS C Rm (As := [.int x1, .int x2, .int x6]) (rest := []) Y_X12_farBy Yv_X12_farBy ml_X12_397 (by decide) (by decide) hm (fun r11 h12 e9 => c_X12_farBy _ _ _ _ _ _ _ _ _ _ e9) rfl rfl (Nat.le_of_ble_eq_true rfl) (by decide +kernel) (fun r11 h12 hm z13 => ?_)
      refine q_istore C Rm.1 (i := 7) (lv' := [(7, .int r11), (0, .ref x0), (1, .int x1), (2, .int x2), (3, .int x3), (4, .int x4), (5, .int x5), (6, .int x6)]) rfl (by decide) (by decide +kernel) ?_
      refine q_iload C (i := 4) 5 rfl (by decide +kernel) ?_
      refine q_if_lt C (off := 13) 83 hm (by decide +kernel) (by decide) (fun _ hm => ?_) (fun _ hm => ?_)
      · refine q_loc [1, 2, 3, 4, 7, 0] rfl ?_
        exact v_X12_row_83 C Rm K ih _ _ _ _ _ _ _ hm
      · refine q_iload C (i := 7) 0 rfl (by decide +kernel) ?_
        refine q_iload C (i := 5) 6 rfl (by decide +kernel) ?_
        refine q_icmp_gt C (off := 6) 83 hm (by decide +kernel) (by decide) (fun _ hm => ?_) (fun _ hm => ?_)
        · refine q_loc [1, 2, 3, 4, 7, 0] rfl ?_
          exact v_X12_row_83 C Rm K ih _ _ _ _ _ _ _ hm
        · refine q_goto C (off := 11) 91 (by decide +kernel) (by decide) ?_
          refine q_loc [1, 2, 3, 4, 5, 6, 7] rfl ?_
          exact v_X12_row_91 C Rm K ih _ _ _ _ _ _ _ _ hm
def m_X12_row (h : q_H) (a0 : Nat) (a1 : Int32) (a2 : Int32) (a3 : Int32) : Option (Int32 × q_H) :=
  (q_ca 12 h a0 (m_X12_isPuller h a0 a1)).bind fun r1 =>
  if r1 = 0 then
    some ((-2 : Int32), h)
  else
    (m_X12_in a2.toInt64 ((1 : Int64)) ((4 : Int64))).bind fun r3 =>
    if r3 = 0 then
      some ((-2 : Int32), h)
    else
      (m_X12_in a3.toInt64 ((0 : Int64)) ((4 : Int64))).bind fun r5 =>
      if r5 = 0 then
        some ((-2 : Int32), h)
      else
        (q_ca 12 h a0 (m_X12_keeps h a0)).bind fun h8 =>
        m_X12_row_48 q_fu h8 a0 a1 a2 a3 ((-1 : Int32)) ((-1 : Int32)) ((0 : Int32))
set_option maxRecDepth 20000 in
set_option maxHeartbeats 1000000 in
theorem c_X12_row (l : Launch) (base : Nat) (D : va_G) (tc : Nat → ClassId) (sz : Nat) (h : q_H) (a0 : Nat) (a1 : Int32) (a2 : Int32) (a3 : Int32) {r : Int32} {h' : q_H} (hm : m_X12_row h a0 a1 a2 a3 = some (r, h')) : q_M l yX12_row cX12_row 8 (some .int) 7 168 0 0 base D tc [.ref a0, .int a1, .int a2, .int a3] sz h (some (.int r)) sz h' := by
  refine q_starti (by decide) (Nat.le_of_ble_eq_true rfl) (fun Γ B K => ?_)
  obtain ⟨C, Rm, -⟩ := B
  have C : q_C Γ cX12_row RX12 := C
  show q_V Γ sz 0 0 h [(0, .ref a0), (1, .int a1), (2, .int a2), (3, .int a3)] [] 0
  unfold m_X12_row at hm
  refine q_aload_n C (k4 := 0) 0 rfl (by decide +kernel) ?_
  refine q_iload_n C (k4 := 1) 1 rfl (by decide +kernel) ?_
  refine q_viP C Rm (As := [.int a1]) (rest := []) Y_X12_isPuller Yv_X12_isPuller ml_X12_278 (by decide) (by decide) hm (fun r9 e9 => c_X12_isPuller _ _ _ _ _ _ _ _ e9) rfl rfl (Nat.le_of_ble_eq_true rfl) (by decide +kernel) (fun r1 hm z2 => ?_)
  refine q_if_eq C (off := 27) 32 hm (by decide +kernel) (by decide) (fun _ hm => ?_) (fun _ hm => ?_)
  · refine q_bipush C (n := (-2)) (v := (-2)) (by decide) (by decide +kernel) ?_
    exact q_riS hm K rfl (by decide +kernel)
  · refine q_iload_n C (k4 := 2) 2 rfl (by decide +kernel) ?_
    refine q_i2l C (by decide +kernel) ?_
    refine q_lconst C (n := 1) (v := 1) (by decide) (by decide +kernel) ?_
    refine q_ldc2 C (idx := 395) (v := 4) (q_m7 144 rfl rfl) (by decide +kernel) ?_
    refine q_siP C Rm (As := [.long a2.toInt64, .long ((1 : Int64)), .long ((4 : Int64))]) (rest := []) Y_X12_in Ys_X12_in ml_X12_121 (by decide) (by decide) hm (fun r9 e9 => c_X12_in _ _ _ _ _ _ _ _ _ e9) rfl rfl (Nat.le_of_ble_eq_true rfl) (by decide +kernel) (fun r3 hm z4 => ?_)
    refine q_if_eq C (off := 15) 32 hm (by decide +kernel) (by decide) (fun _ hm => ?_) (fun _ hm => ?_)
    · refine q_bipush C (n := (-2)) (v := (-2)) (by decide) (by decide +kernel) ?_
      exact q_riS hm K rfl (by decide +kernel)
    · refine q_iload_n C (k4 := 3) 3 rfl (by decide +kernel) ?_
      refine q_i2l C (by decide +kernel) ?_
      refine q_lconst C (n := 0) (v := 0) (by decide) (by decide +kernel) ?_
      refine q_ldc2 C (idx := 395) (v := 4) (q_m7 144 rfl rfl) (by decide +kernel) ?_
      refine q_siP C Rm (As := [.long a3.toInt64, .long ((0 : Int64)), .long ((4 : Int64))]) (rest := []) Y_X12_in Ys_X12_in ml_X12_121 (by decide) (by decide) hm (fun r9 e9 => c_X12_in _ _ _ _ _ _ _ _ _ e9) rfl rfl (Nat.le_of_ble_eq_true rfl) (by decide +kernel) (fun r5 hm z6 => ?_)
      refine q_if_ne C (off := 6) 35 hm (by decide +kernel) (by decide) (fun _ hm => ?_) (fun _ hm => ?_)
      · refine q_aload_n C (k4 := 0) 0 rfl (by decide +kernel) ?_
        refine q_vvS C Rm (As := []) (rest := []) Y_X12_keeps Yv_X12_keeps ml_X12_383 (by decide) (by decide) hm (fun h8 e9 => c_X12_keeps _ _ _ _ _ _ _ e9) rfl rfl (Nat.le_of_ble_eq_true rfl) (by decide +kernel) (fun h8 hm => ?_)
        refine q_iconst C (n := (-1)) (v := (-1)) (by decide) (by decide +kernel) ?_
        refine q_istore C Rm.1 (i := 4) (lv' := [(4, .int ((-1 : Int32))), (0, .ref a0), (1, .int a1), (2, .int a2), (3, .int a3)]) rfl (by decide) (by decide +kernel) ?_
        refine q_iconst C (n := (-1)) (v := (-1)) (by decide) (by decide +kernel) ?_
        refine q_istore C Rm.1 (i := 5) (lv' := [(5, .int ((-1 : Int32))), (4, .int ((-1 : Int32))), (0, .ref a0), (1, .int a1), (2, .int a2), (3, .int a3)]) rfl (by decide) (by decide +kernel) ?_
        refine q_iconst C (n := 0) (v := 0) (by decide) (by decide +kernel) ?_
        refine q_istore C Rm.1 (i := 6) (lv' := [(6, .int ((0 : Int32))), (5, .int ((-1 : Int32))), (4, .int ((-1 : Int32))), (0, .ref a0), (1, .int a1), (2, .int a2), (3, .int a3)]) rfl (by decide) (by decide +kernel) ?_
        refine q_loc [3, 4, 5, 6, 2, 1, 0] rfl ?_
        exact v_X12_row_48 C Rm K _ _ _ _ _ _ _ _ _ hm
      · refine q_bipush C (n := (-2)) (v := (-2)) (by decide) (by decide +kernel) ?_
        exact q_riS hm K rfl (by decide +kernel)
def m_X12_nearIn_33  (h : q_H) (x0 : Nat) (s0 : Int32) : Option (Int32 × q_H) :=
  (q_ca 12 h x0 (m_X12_laysBack h x0)).bind fun h10 =>
  some (s0, h10)
set_option maxRecDepth 20000 in
set_option maxHeartbeats 1000000 in
theorem v_X12_nearIn_33 {Γ : q_G} {sz : Nat} {r : Int32} {h' : q_H} (C : q_C Γ cX12_nearIn RX12) (Rm : q_Rm Γ 3 7 166 0 0)  (K : narrow .int (.int r) = .int r → q_K Γ cX12_nearIn .ireturn sz h' 0 0 [.int r])  : ∀ (h : q_H) (x0 : Nat) (s0 : Int32), m_X12_nearIn_33 h x0 s0 = some (r, h') → q_V Γ sz 0 0 h [(0, .ref x0)] [.int s0] 33 := by
  intro h x0 s0 hm
  unfold m_X12_nearIn_33 at hm
  refine q_istore_n C Rm.1 (k4 := 2) (i := 2) rfl (lv' := [(2, .int s0), (0, .ref x0)]) rfl (by decide) (by decide +kernel) ?_
  refine q_aload_n C (k4 := 0) 1 rfl (by decide +kernel) ?_
  refine q_vvS C Rm (As := []) (rest := []) Y_X12_laysBack Yv_X12_laysBack ml_X12_389 (by decide) (by decide) hm (fun h10 e9 => c_X12_laysBack _ _ _ _ _ _ _ e9) rfl rfl (Nat.le_of_ble_eq_true rfl) (by decide +kernel) (fun h10 hm => ?_)
  refine q_iload_n C (k4 := 2) 0 rfl (by decide +kernel) ?_
  exact q_riS hm K rfl (by decide +kernel)
def m_X12_nearIn (h : q_H) (a0 : Nat) (a1 : Int32) : Option (Int32 × q_H) :=
  (q_ca 12 h a0 (m_X12_passesAll h a0 a1)).bind fun h2 =>
  (q_gn h2 a0 12 20).bind fun v3 =>
  (q_ai h2 v3 1 ((11 : Int32))).bind fun v4 =>
  if 0 ≤ v4 then
    (q_gn h2 a0 12 20).bind fun v5 =>
    (q_ai h2 v5 1 ((11 : Int32))).bind fun v6 =>
    m_X12_nearIn_33 h2 a0 v6
  else
    (q_gn h2 a0 12 20).bind fun v7 =>
    (q_ai h2 v7 1 ((11 : Int32))).bind fun v8 =>
    m_X12_nearIn_33 h2 a0 ((0 - v8))
set_option maxRecDepth 20000 in
set_option maxHeartbeats 1000000 in
theorem c_X12_nearIn (l : Launch) (base : Nat) (D : va_G) (tc : Nat → ClassId) (sz : Nat) (h : q_H) (a0 : Nat) (a1 : Int32) {r : Int32} {h' : q_H} (hm : m_X12_nearIn h a0 a1 = some (r, h')) : q_M l yX12_nearIn cX12_nearIn 3 (some .int) 7 166 0 0 base D tc [.ref a0, .int a1] sz h (some (.int r)) sz h' := by
  refine q_starti (by decide) (Nat.le_of_ble_eq_true rfl) (fun Γ B K => ?_)
  obtain ⟨C, Rm, -⟩ := B
  have C : q_C Γ cX12_nearIn RX12 := C
  show q_V Γ sz 0 0 h [(0, .ref a0), (1, .int a1)] [] 0
  unfold m_X12_nearIn at hm
  refine q_aload_n C (k4 := 0) 0 rfl (by decide +kernel) ?_
  refine q_iload_n C (k4 := 1) 1 rfl (by decide +kernel) ?_
  refine q_vvS C Rm (As := [.int a1]) (rest := []) Y_X12_passesAll Yv_X12_passesAll ml_X12_386 (by decide) (by decide) hm (fun h2 e9 => c_X12_passesAll _ _ _ _ _ _ _ _ e9) rfl rfl (Nat.le_of_ble_eq_true rfl) (by decide +kernel) (fun h2 hm => ?_)
  refine q_aload_n C (k4 := 0) 0 rfl (by decide +kernel) ?_
  refine q_getn C fl_12_39 hm (by decide +kernel) (fun v3 hm => ?_)
  refine q_bipush C (n := 11) (v := 11) (by decide) (by decide +kernel) ?_
  refine q_ir C hm (by decide +kernel) (fun v4 hm => ?_)
  refine q_if_ge C (off := 14) 26 hm (by decide +kernel) (by decide) (fun _ hm => ?_) (fun _ hm => ?_)
  · refine q_aload_n C (k4 := 0) 0 rfl (by decide +kernel) ?_
    refine q_getn C fl_12_39 hm (by decide +kernel) (fun v5 hm => ?_)
    refine q_bipush C (n := 11) (v := 11) (by decide) (by decide +kernel) ?_
    refine q_ir C hm (by decide +kernel) (fun v6 hm => ?_)
    refine q_loc [0] rfl ?_
    exact v_X12_nearIn_33 C Rm K _ _ _ hm
  · refine q_aload_n C (k4 := 0) 0 rfl (by decide +kernel) ?_
    refine q_getn C fl_12_39 hm (by decide +kernel) (fun v7 hm => ?_)
    refine q_bipush C (n := 11) (v := 11) (by decide) (by decide +kernel) ?_
    refine q_ir C hm (by decide +kernel) (fun v8 hm => ?_)
    refine q_ineg C (by decide +kernel) ?_
    refine q_goto C (off := 10) 33 (by decide +kernel) (by decide) ?_
    refine q_loc [0] rfl ?_
    exact v_X12_nearIn_33 C Rm K _ _ _ hm
def m_X12_trades_2  : Nat → q_H → Nat → Int32 → Int32 → Int32 → Option q_H
  | 0, _, _, _, _, _ => none
  | n + 1, h, x0, x1, x2, x3 =>
    if (2 : Int32) ≤ x3 then
      some h
    else
      (q_gn h x0 12 20).bind fun v1 =>
      (q_ai h v1 1 ((((12 : Int32) + ((5 : Int32) * x1)) + x3))).bind fun v2 =>
      (q_gn h x0 12 20).bind fun v3 =>
      (q_gn h x0 12 20).bind fun v4 =>
      (q_ai h v4 1 ((((12 : Int32) + ((5 : Int32) * x2)) + x3))).bind fun v5 =>
      (q_si h v3 1 ((((12 : Int32) + ((5 : Int32) * x1)) + x3)) v5).bind fun h6 =>
      (q_gn h6 x0 12 20).bind fun v7 =>
      (q_si h6 v7 1 ((((12 : Int32) + ((5 : Int32) * x2)) + x3)) v2).bind fun h8 =>
      m_X12_trades_2 n h8 x0 x1 x2 ((x3 + (1 : Int32)))
set_option maxRecDepth 20000 in
set_option maxHeartbeats 1000000 in
theorem v_X12_trades_2 {Γ : q_G} {sz : Nat} {h' : q_H} (C : q_C Γ cX12_trades RX12) (Rm : q_Rm Γ 5 0 0 0 0)  (K : q_K Γ cX12_trades .return_ sz h' 0 0 [])  : ∀ (n : Nat) (h : q_H) (x0 : Nat) (x1 : Int32) (x2 : Int32) (x3 : Int32), m_X12_trades_2 n h x0 x1 x2 x3 = some h' → q_V Γ sz 0 0 h [(0, .ref x0), (1, .int x1), (2, .int x2), (3, .int x3)] [] 2 := by
  intro n
  induction n with
  | zero => intro h x0 x1 x2 x3 hm; cases hm
  | succ n ih =>
    intro h x0 x1 x2 x3 hm
    unfold m_X12_trades_2 at hm
    refine q_iload_n C (k4 := 3) 3 rfl (by decide +kernel) ?_
    refine q_iconst C (n := 2) (v := 2) (by decide) (by decide +kernel) ?_
    refine q_icmp_ge C (off := 65) 69 hm (by decide +kernel) (by decide) (fun _ hm => ?_) (fun _ hm => ?_)
    · exact q_rvS hm K (by decide +kernel)
    · refine q_aload_n C (k4 := 0) 0 rfl (by decide +kernel) ?_
      refine q_getn C fl_12_39 hm (by decide +kernel) (fun v1 hm => ?_)
      refine q_bipush C (n := 12) (v := 12) (by decide) (by decide +kernel) ?_
      refine q_iconst C (n := 5) (v := 5) (by decide) (by decide +kernel) ?_
      refine q_iload_n C (k4 := 1) 1 rfl (by decide +kernel) ?_
      refine q_imul C (by decide +kernel) ?_
      refine q_iadd C (by decide +kernel) ?_
      refine q_iload_n C (k4 := 3) 3 rfl (by decide +kernel) ?_
      refine q_iadd C (by decide +kernel) ?_
      refine q_ir C hm (by decide +kernel) (fun v2 hm => ?_)
      refine q_istore C Rm.1 (i := 4) (lv' := [(4, .int v2), (0, .ref x0), (1, .int x1), (2, .int x2), (3, .int x3)]) rfl (by decide) (by decide +kernel) ?_
      refine q_aload_n C (k4 := 0) 1 rfl (by decide +kernel) ?_
      refine q_getn C fl_12_39 hm (by decide +kernel) (fun v3 hm => ?_)
      refine q_bipush C (n := 12) (v := 12) (by decide) (by decide +kernel) ?_
      refine q_iconst C (n := 5) (v := 5) (by decide) (by decide +kernel) ?_
      refine q_iload_n C (k4 := 1) 2 rfl (by decide +kernel) ?_
      refine q_imul C (by decide +kernel) ?_
      refine q_iadd C (by decide +kernel) ?_
      refine q_iload_n C (k4 := 3) 4 rfl (by decide +kernel) ?_
      refine q_iadd C (by decide +kernel) ?_
      refine q_aload_n C (k4 := 0) 1 rfl (by decide +kernel) ?_
      refine q_getn C fl_12_39 hm (by decide +kernel) (fun v4 hm => ?_)
      refine q_bipush C (n := 12) (v := 12) (by decide) (by decide +kernel) ?_
      refine q_iconst C (n := 5) (v := 5) (by decide) (by decide +kernel) ?_
      refine q_iload_n C (k4 := 2) 3 rfl (by decide +kernel) ?_
      refine q_imul C (by decide +kernel) ?_
      refine q_iadd C (by decide +kernel) ?_
      refine q_iload_n C (k4 := 3) 4 rfl (by decide +kernel) ?_
      refine q_iadd C (by decide +kernel) ?_
      refine q_ir C hm (by decide +kernel) (fun v5 hm => ?_)
      refine q_iw C hm (by decide +kernel) (fun h6 hm => ?_)
      refine q_aload_n C (k4 := 0) 1 rfl (by decide +kernel) ?_
      refine q_getn C fl_12_39 hm (by decide +kernel) (fun v7 hm => ?_)
      refine q_bipush C (n := 12) (v := 12) (by decide) (by decide +kernel) ?_
      refine q_iconst C (n := 5) (v := 5) (by decide) (by decide +kernel) ?_
      refine q_iload_n C (k4 := 2) 3 rfl (by decide +kernel) ?_
      refine q_imul C (by decide +kernel) ?_
      refine q_iadd C (by decide +kernel) ?_
      refine q_iload_n C (k4 := 3) 4 rfl (by decide +kernel) ?_
      refine q_iadd C (by decide +kernel) ?_
      refine q_iload C (i := 4) 0 rfl (by decide +kernel) ?_
      refine q_iw C hm (by decide +kernel) (fun h8 hm => ?_)
      refine q_iinc C Rm.1 (i := 3) (n := 1) (v := (x3 + (1 : Int32))) 4 rfl (q_inc _ (by decide)) (lv' := [(3, .int ((x3 + (1 : Int32)))), (4, .int v2), (0, .ref x0), (1, .int x1), (2, .int x2)]) rfl (by decide) (by decide +kernel) ?_
      refine q_goto C (off := -64) 2 (by decide +kernel) (by decide) ?_
      refine q_loc [2, 3, 4, 0] rfl ?_
      exact ih _ _ _ _ _ hm
def m_X12_trades (h : q_H) (a0 : Nat) (a1 : Int32) (a2 : Int32) : Option q_H :=
  m_X12_trades_2 q_fu h a0 a1 a2 ((0 : Int32))
set_option maxRecDepth 20000 in
set_option maxHeartbeats 1000000 in
theorem c_X12_trades (l : Launch) (base : Nat) (D : va_G) (tc : Nat → ClassId) (sz : Nat) (h : q_H) (a0 : Nat) (a1 : Int32) (a2 : Int32) {h' : q_H} (hm : m_X12_trades h a0 a1 a2 = some h') : q_M l yX12_trades cX12_trades 5 none 0 0 0 0 base D tc [.ref a0, .int a1, .int a2] sz h none sz h' := by
  refine q_startv (by decide) (Nat.le_of_ble_eq_true rfl) (fun Γ B K => ?_)
  obtain ⟨C, Rm, -⟩ := B
  have C : q_C Γ cX12_trades RX12 := C
  show q_V Γ sz 0 0 h [(0, .ref a0), (1, .int a1), (2, .int a2)] [] 0
  unfold m_X12_trades at hm
  refine q_iconst C (n := 0) (v := 0) (by decide) (by decide +kernel) ?_
  refine q_istore_n C Rm.1 (k4 := 3) (i := 3) rfl (lv' := [(3, .int ((0 : Int32))), (0, .ref a0), (1, .int a1), (2, .int a2)]) rfl (by decide) (by decide +kernel) ?_
  refine q_loc [1, 2, 3, 0] rfl ?_
  exact v_X12_trades_2 C Rm K _ _ _ _ _ _ hm
def m_X12_trade_136 (k53 : q_H → Nat → Int32 → Int32 → Int32 → Int32 → Int32 → Int32 → Option (Int32 × q_H)) (k67 : q_H → Nat → Int32 → Int32 → Int32 → Int32 → Int32 → Int32 → Int32 → Option (Int32 × q_H)) (h : q_H) (x0 : Nat) (x1 : Int32) (x2 : Int32) (x3 : Int32) (x4 : Int32) (x5 : Int32) (x6 : Int32) (x7 : Int32) : Option (Int32 × q_H) :=
  k67 h x0 x1 x2 x3 x4 x5 x6 ((x7 + (1 : Int32)))
set_option maxRecDepth 20000 in
set_option maxHeartbeats 1000000 in
theorem v_X12_trade_136 {Γ : q_G} {sz : Nat} {r : Int32} {h' : q_H} (C : q_C Γ cX12_trade RX12) (Rm : q_Rm Γ 9 8 188 0 0) {k53 : q_H → Nat → Int32 → Int32 → Int32 → Int32 → Int32 → Int32 → Option (Int32 × q_H)} {k67 : q_H → Nat → Int32 → Int32 → Int32 → Int32 → Int32 → Int32 → Int32 → Option (Int32 × q_H)} (K : narrow .int (.int r) = .int r → q_K Γ cX12_trade .ireturn sz h' 0 0 [.int r]) (hk53 : ∀ (h : q_H) (x0 : Nat) (x1 : Int32) (x2 : Int32) (x3 : Int32) (x4 : Int32) (x5 : Int32) (x6 : Int32), k53 h x0 x1 x2 x3 x4 x5 x6 = some (r, h') → q_V Γ sz 0 0 h [(0, .ref x0), (1, .int x1), (2, .int x2), (3, .int x3), (4, .int x4), (5, .int x5), (6, .int x6)] [] 53) (hk67 : ∀ (h : q_H) (x0 : Nat) (x1 : Int32) (x2 : Int32) (x3 : Int32) (x4 : Int32) (x5 : Int32) (x6 : Int32) (x7 : Int32), k67 h x0 x1 x2 x3 x4 x5 x6 x7 = some (r, h') → q_V Γ sz 0 0 h [(0, .ref x0), (1, .int x1), (2, .int x2), (3, .int x3), (4, .int x4), (5, .int x5), (6, .int x6), (7, .int x7)] [] 67) : ∀ (h : q_H) (x0 : Nat) (x1 : Int32) (x2 : Int32) (x3 : Int32) (x4 : Int32) (x5 : Int32) (x6 : Int32) (x7 : Int32), m_X12_trade_136 k53 k67 h x0 x1 x2 x3 x4 x5 x6 x7 = some (r, h') → q_V Γ sz 0 0 h [(0, .ref x0), (1, .int x1), (2, .int x2), (3, .int x3), (4, .int x4), (5, .int x5), (6, .int x6), (7, .int x7)] [] 136 := by
  intro h x0 x1 x2 x3 x4 x5 x6 x7 hm
  unfold m_X12_trade_136 at hm
  refine q_iinc C Rm.1 (i := 7) (n := 1) (v := (x7 + (1 : Int32))) 7 rfl (q_inc _ (by decide)) (lv' := [(7, .int ((x7 + (1 : Int32)))), (0, .ref x0), (1, .int x1), (2, .int x2), (3, .int x3), (4, .int x4), (5, .int x5), (6, .int x6)]) rfl (by decide) (by decide +kernel) ?_
  refine q_goto C (off := -72) 67 (by decide +kernel) (by decide) ?_
  refine q_loc [1, 2, 3, 4, 5, 6, 7, 0] rfl ?_
  exact hk67 _ _ _ _ _ _ _ _ _ hm
def m_X12_trade_67 (k53 : q_H → Nat → Int32 → Int32 → Int32 → Int32 → Int32 → Int32 → Option (Int32 × q_H)) : Nat → q_H → Nat → Int32 → Int32 → Int32 → Int32 → Int32 → Int32 → Int32 → Option (Int32 × q_H)
  | 0, _, _, _, _, _, _, _, _, _ => none
  | n + 1, h, x0, x1, x2, x3, x4, x5, x6, x7 =>
    (q_gn h x0 12 20).bind fun v14 =>
    (q_ai h v14 1 ((3 : Int32))).bind fun v15 =>
    if v15 ≤ x7 then
      k53 h x0 x1 x2 x3 x4 x5 ((x6 + (1 : Int32)))
    else
      (q_ca 12 h x0 (m_X12_sideOf h x0 x6)).bind fun r16 =>
      if r16 = 0 then
        (q_ca 12 h x0 (m_X12_sideOf h x0 x7)).bind fun r18 =>
        if r18 = (1 : Int32) then
          (q_ca 12 h x0 (m_X12_trades h x0 x6 x7)).bind fun h21 =>
          (q_ca 12 h21 x0 (m_X12_nearIn h21 x0 x1)).bind fun (r22, h23) =>
          if r22 < x5 then
            m_X12_trade_136 k53 (m_X12_trade_67 k53 n) h23 x0 x1 x2 x6 x7 r22 x6 x7
          else
            m_X12_trade_136 k53 (m_X12_trade_67 k53 n) h23 x0 x1 x2 x3 x4 x5 x6 x7
        else
          m_X12_trade_136 k53 (m_X12_trade_67 k53 n) h x0 x1 x2 x3 x4 x5 x6 x7
      else
        m_X12_trade_136 k53 (m_X12_trade_67 k53 n) h x0 x1 x2 x3 x4 x5 x6 x7
set_option maxRecDepth 20000 in
set_option maxHeartbeats 1000000 in
theorem v_X12_trade_67 {Γ : q_G} {sz : Nat} {r : Int32} {h' : q_H} (C : q_C Γ cX12_trade RX12) (Rm : q_Rm Γ 9 8 188 0 0) {k53 : q_H → Nat → Int32 → Int32 → Int32 → Int32 → Int32 → Int32 → Option (Int32 × q_H)} (K : narrow .int (.int r) = .int r → q_K Γ cX12_trade .ireturn sz h' 0 0 [.int r]) (hk53 : ∀ (h : q_H) (x0 : Nat) (x1 : Int32) (x2 : Int32) (x3 : Int32) (x4 : Int32) (x5 : Int32) (x6 : Int32), k53 h x0 x1 x2 x3 x4 x5 x6 = some (r, h') → q_V Γ sz 0 0 h [(0, .ref x0), (1, .int x1), (2, .int x2), (3, .int x3), (4, .int x4), (5, .int x5), (6, .int x6)] [] 53) : ∀ (n : Nat) (h : q_H) (x0 : Nat) (x1 : Int32) (x2 : Int32) (x3 : Int32) (x4 : Int32) (x5 : Int32) (x6 : Int32) (x7 : Int32), m_X12_trade_67 k53 n h x0 x1 x2 x3 x4 x5 x6 x7 = some (r, h') → q_V Γ sz 0 0 h [(0, .ref x0), (1, .int x1), (2, .int x2), (3, .int x3), (4, .int x4), (5, .int x5), (6, .int x6), (7, .int x7)] [] 67 := by
  intro n
  induction n with
  | zero => intro h x0 x1 x2 x3 x4 x5 x6 x7 hm; cases hm
  | succ n ih =>
    intro h x0 x1 x2 x3 x4 x5 x6 x7 hm
    unfold m_X12_trade_67 at hm
    refine q_iload C (i := 7) 7 rfl (by decide +kernel) ?_
    refine q_aload_n C (k4 := 0) 0 rfl (by decide +kernel) ?_
    refine q_getn C fl_12_39 hm (by decide +kernel) (fun v14 hm => ?_)
    refine q_iconst C (n := 3) (v := 3) (by decide) (by decide +kernel) ?_
    refine q_ir C hm (by decide +kernel) (fun v15 hm => ?_)
    refine q_icmp_ge C (off := 67) 142 hm (by decide +kernel) (by decide) (fun _ hm => ?_) (fun _ hm => ?_)
    · refine q_iinc C Rm.1 (i := 6) (n := 1) (v := (x6 + (1 : Int32))) 6 rfl (q_inc _ (by decide)) (lv' := [(6, .int ((x6 + (1 : Int32)))), (0, .ref x0), (1, .int x1), (2, .int x2), (3, .int x3), (4, .int x4), (5, .int x5), (7, .int x7)]) rfl (by decide) (by decide +kernel) ?_
      refine q_goto C (off := -92) 53 (by decide +kernel) (by decide) ?_
      refine q_loc [1, 2, 3, 4, 5, 6, 0] rfl ?_
      exact hk53 _ _ _ _ _ _ _ _ hm
    · refine q_aload_n C (k4 := 0) 0 rfl (by decide +kernel) ?_
      refine q_iload C (i := 6) 6 rfl (by decide +kernel) ?_
      refine q_viP C Rm (As := [.int x6]) (rest := []) Y_X12_sideOf Yv_X12_sideOf ml_X12_284 (by decide) (by decide) hm (fun r9 e9 => c_X12_sideOf _ _ _ _ _ _ _ _ e9) rfl rfl (Nat.le_of_ble_eq_true rfl) (by decide +kernel) (fun r16 hm z17 => ?_)
      refine q_if_ne C (off := 52) 136 hm (by decide +kernel) (by decide) (fun _ hm => ?_) (fun _ hm => ?_)
      · exact v_X12_trade_136 C Rm K hk53 ih _ _ _ _ _ _ _ _ _ hm
      · refine q_aload_n C (k4 := 0) 0 rfl (by decide +kernel) ?_
        refine q_iload C (i := 7) 7 rfl (by decide +kernel) ?_
        refine q_viP C Rm (As := [.int x7]) (rest := []) Y_X12_sideOf Yv_X12_sideOf ml_X12_284 (by decide) (by decide) hm (fun r9 e9 => c_X12_sideOf _ _ _ _ _ _ _ _ e9) rfl rfl (Nat.le_of_ble_eq_true rfl) (by decide +kernel) (fun r18 hm z19 => ?_)
        refine q_iconst C (n := 1) (v := 1) (by decide) (by decide +kernel) ?_
        refine q_icmp_eq C (off := 6) 100 hm (by decide +kernel) (by decide) (fun _ hm => ?_) (fun _ hm => ?_)
        · refine q_aload_n C (k4 := 0) 0 rfl (by decide +kernel) ?_
          refine q_iload C (i := 6) 6 rfl (by decide +kernel) ?_
          refine q_iload C (i := 7) 7 rfl (by decide +kernel) ?_
          refine q_vvS C Rm (As := [.int x6, .int x7]) (rest := []) Y_X12_trades Yv_X12_trades ml_X12_405 (by decide) (by decide) hm (fun h21 e9 => c_X12_trades _ _ _ _ _ _ _ _ _ e9) rfl rfl (Nat.le_of_ble_eq_true rfl) (by decide +kernel) (fun h21 hm => ?_)
          refine q_aload_n C (k4 := 0) 0 rfl (by decide +kernel) ?_
          refine q_iload_n C (k4 := 1) 1 rfl (by decide +kernel) ?_
          refine q_viS C Rm (As := [.int x1]) (rest := []) Y_X12_nearIn Yv_X12_nearIn ml_X12_402 (by decide) (by decide) hm (fun r22 h23 e9 => c_X12_nearIn _ _ _ _ _ _ _ _ e9) rfl rfl (Nat.le_of_ble_eq_true rfl) (by decide +kernel) (fun r22 h23 hm z24 => ?_)
          refine q_istore C Rm.1 (i := 8) (lv' := [(8, .int r22), (0, .ref x0), (1, .int x1), (2, .int x2), (3, .int x3), (4, .int x4), (5, .int x5), (6, .int x6), (7, .int x7)]) rfl (by decide) (by decide +kernel) ?_
          refine q_iload C (i := 8) 0 rfl (by decide +kernel) ?_
          refine q_iload C (i := 5) 6 rfl (by decide +kernel) ?_
          refine q_icmp_lt C (off := 6) 125 hm (by decide +kernel) (by decide) (fun _ hm => ?_) (fun _ hm => ?_)
          · refine q_iload C (i := 6) 7 rfl (by decide +kernel) ?_
            refine q_istore_n C Rm.1 (k4 := 3) (i := 3) rfl (lv' := [(3, .int x6), (8, .int r22), (0, .ref x0), (1, .int x1), (2, .int x2), (4, .int x4), (5, .int x5), (6, .int x6), (7, .int x7)]) rfl (by decide) (by decide +kernel) ?_
            refine q_iload C (i := 7) 8 rfl (by decide +kernel) ?_
            refine q_istore C Rm.1 (i := 4) (lv' := [(4, .int x7), (3, .int x6), (8, .int r22), (0, .ref x0), (1, .int x1), (2, .int x2), (5, .int x5), (6, .int x6), (7, .int x7)]) rfl (by decide) (by decide +kernel) ?_
            refine q_iload C (i := 8) 2 rfl (by decide +kernel) ?_
            refine q_istore C Rm.1 (i := 5) (lv' := [(5, .int r22), (4, .int x7), (3, .int x6), (8, .int r22), (0, .ref x0), (1, .int x1), (2, .int x2), (6, .int x6), (7, .int x7)]) rfl (by decide) (by decide +kernel) ?_
            refine q_loc [4, 5, 6, 2, 1, 0, 7, 8] rfl ?_
            exact v_X12_trade_136 C Rm K hk53 ih _ _ _ _ _ _ _ _ _ hm
          · refine q_goto C (off := 14) 136 (by decide +kernel) (by decide) ?_
            refine q_loc [1, 2, 3, 4, 5, 6, 7, 8] rfl ?_
            exact v_X12_trade_136 C Rm K hk53 ih _ _ _ _ _ _ _ _ _ hm
        · refine q_goto C (off := 39) 136 (by decide +kernel) (by decide) ?_
          exact v_X12_trade_136 C Rm K hk53 ih _ _ _ _ _ _ _ _ _ hm
def m_X12_trade_53  : Nat → q_H → Nat → Int32 → Int32 → Int32 → Int32 → Int32 → Int32 → Option (Int32 × q_H)
  | 0, _, _, _, _, _, _, _, _ => none
  | n + 1, h, x0, x1, x2, x3, x4, x5, x6 =>
    (q_gn h x0 12 20).bind fun v12 =>
    (q_ai h v12 1 ((3 : Int32))).bind fun v13 =>
    if v13 ≤ x6 then
      if x2 = 0 then
        some (x5, h)
      else
        if x2 = (1 : Int32) then
          some (x3, h)
        else
          some (x4, h)
    else
      m_X12_trade_67 (m_X12_trade_53 n) q_fu h x0 x1 x2 x3 x4 x5 x6 ((0 : Int32))
set_option maxRecDepth 20000 in
set_option maxHeartbeats 1000000 in
theorem v_X12_trade_53 {Γ : q_G} {sz : Nat} {r : Int32} {h' : q_H} (C : q_C Γ cX12_trade RX12) (Rm : q_Rm Γ 9 8 188 0 0)  (K : narrow .int (.int r) = .int r → q_K Γ cX12_trade .ireturn sz h' 0 0 [.int r])  : ∀ (n : Nat) (h : q_H) (x0 : Nat) (x1 : Int32) (x2 : Int32) (x3 : Int32) (x4 : Int32) (x5 : Int32) (x6 : Int32), m_X12_trade_53 n h x0 x1 x2 x3 x4 x5 x6 = some (r, h') → q_V Γ sz 0 0 h [(0, .ref x0), (1, .int x1), (2, .int x2), (3, .int x3), (4, .int x4), (5, .int x5), (6, .int x6)] [] 53 := by
  intro n
  induction n with
  | zero => intro h x0 x1 x2 x3 x4 x5 x6 hm; cases hm
  | succ n ih =>
    intro h x0 x1 x2 x3 x4 x5 x6 hm
    unfold m_X12_trade_53 at hm
    refine q_iload C (i := 6) 6 rfl (by decide +kernel) ?_
    refine q_aload_n C (k4 := 0) 0 rfl (by decide +kernel) ?_
    refine q_getn C fl_12_39 hm (by decide +kernel) (fun v12 hm => ?_)
    refine q_iconst C (n := 3) (v := 3) (by decide) (by decide +kernel) ?_
    refine q_ir C hm (by decide +kernel) (fun v13 hm => ?_)
    refine q_icmp_ge C (off := 87) 148 hm (by decide +kernel) (by decide) (fun _ hm => ?_) (fun _ hm => ?_)
    · refine q_iload_n C (k4 := 2) 2 rfl (by decide +kernel) ?_
      refine q_if_ne C (off := 8) 157 hm (by decide +kernel) (by decide) (fun _ hm => ?_) (fun _ hm => ?_)
      · refine q_iload_n C (k4 := 2) 2 rfl (by decide +kernel) ?_
        refine q_iconst C (n := 1) (v := 1) (by decide) (by decide +kernel) ?_
        refine q_icmp_ne C (off := 7) 166 hm (by decide +kernel) (by decide) (fun _ hm => ?_) (fun _ hm => ?_)
        · refine q_iload C (i := 4) 4 rfl (by decide +kernel) ?_
          exact q_riS hm K rfl (by decide +kernel)
        · refine q_iload_n C (k4 := 3) 3 rfl (by decide +kernel) ?_
          refine q_goto C (off := 5) 168 (by decide +kernel) (by decide) ?_
          exact q_riS hm K rfl (by decide +kernel)
      · refine q_iload C (i := 5) 5 rfl (by decide +kernel) ?_
        refine q_goto C (off := 14) 168 (by decide +kernel) (by decide) ?_
        exact q_riS hm K rfl (by decide +kernel)
    · refine q_iconst C (n := 0) (v := 0) (by decide) (by decide +kernel) ?_
      refine q_istore C Rm.1 (i := 7) (lv' := [(7, .int ((0 : Int32))), (0, .ref x0), (1, .int x1), (2, .int x2), (3, .int x3), (4, .int x4), (5, .int x5), (6, .int x6)]) rfl (by decide) (by decide +kernel) ?_
      refine q_loc [1, 2, 3, 4, 5, 6, 7, 0] rfl ?_
      exact v_X12_trade_67 C Rm K ih _ _ _ _ _ _ _ _ _ _ hm
def m_X12_trade (h : q_H) (a0 : Nat) (a1 : Int32) (a2 : Int32) : Option (Int32 × q_H) :=
  (q_ca 12 h a0 (m_X12_isRope h a0)).bind fun r1 =>
  if r1 = 0 then
    some ((-2 : Int32), h)
  else
    (m_X12_in a1.toInt64 ((1 : Int64)) ((40 : Int64))).bind fun r3 =>
    if r3 = 0 then
      some ((-2 : Int32), h)
    else
      (m_X12_in a2.toInt64 ((0 : Int64)) ((2 : Int64))).bind fun r5 =>
      if r5 = 0 then
        some ((-2 : Int32), h)
      else
        (q_ca 12 h a0 (m_X12_keeps h a0)).bind fun h8 =>
        (q_ca 12 h8 a0 (m_X12_nearIn h8 a0 a1)).bind fun (r9, h10) =>
        m_X12_trade_53 q_fu h10 a0 a1 a2 ((-1 : Int32)) ((-1 : Int32)) r9 ((0 : Int32))
set_option maxRecDepth 20000 in
set_option maxHeartbeats 1000000 in
theorem c_X12_trade (l : Launch) (base : Nat) (D : va_G) (tc : Nat → ClassId) (sz : Nat) (h : q_H) (a0 : Nat) (a1 : Int32) (a2 : Int32) {r : Int32} {h' : q_H} (hm : m_X12_trade h a0 a1 a2 = some (r, h')) : q_M l yX12_trade cX12_trade 9 (some .int) 8 188 0 0 base D tc [.ref a0, .int a1, .int a2] sz h (some (.int r)) sz h' := by
  refine q_starti (by decide) (Nat.le_of_ble_eq_true rfl) (fun Γ B K => ?_)
  obtain ⟨C, Rm, -⟩ := B
  have C : q_C Γ cX12_trade RX12 := C
  show q_V Γ sz 0 0 h [(0, .ref a0), (1, .int a1), (2, .int a2)] [] 0
  unfold m_X12_trade at hm
  refine q_aload_n C (k4 := 0) 0 rfl (by decide +kernel) ?_
  refine q_viP C Rm (As := []) (rest := []) Y_X12_isRope Yv_X12_isRope ml_X12_299 (by decide) (by decide) hm (fun r9 e9 => c_X12_isRope _ _ _ _ _ _ _ e9) rfl rfl (Nat.le_of_ble_eq_true rfl) (by decide +kernel) (fun r1 hm z2 => ?_)
  refine q_if_eq C (off := 27) 31 hm (by decide +kernel) (by decide) (fun _ hm => ?_) (fun _ hm => ?_)
  · refine q_bipush C (n := (-2)) (v := (-2)) (by decide) (by decide +kernel) ?_
    exact q_riS hm K rfl (by decide +kernel)
  · refine q_iload_n C (k4 := 1) 1 rfl (by decide +kernel) ?_
    refine q_i2l C (by decide +kernel) ?_
    refine q_lconst C (n := 1) (v := 1) (by decide) (by decide +kernel) ?_
    refine q_ldc2 C (idx := 400) (v := 40) (q_m7 156 rfl rfl) (by decide +kernel) ?_
    refine q_siP C Rm (As := [.long a1.toInt64, .long ((1 : Int64)), .long ((40 : Int64))]) (rest := []) Y_X12_in Ys_X12_in ml_X12_121 (by decide) (by decide) hm (fun r9 e9 => c_X12_in _ _ _ _ _ _ _ _ _ e9) rfl rfl (Nat.le_of_ble_eq_true rfl) (by decide +kernel) (fun r3 hm z4 => ?_)
    refine q_if_eq C (off := 15) 31 hm (by decide +kernel) (by decide) (fun _ hm => ?_) (fun _ hm => ?_)
    · refine q_bipush C (n := (-2)) (v := (-2)) (by decide) (by decide +kernel) ?_
      exact q_riS hm K rfl (by decide +kernel)
    · refine q_iload_n C (k4 := 2) 2 rfl (by decide +kernel) ?_
      refine q_i2l C (by decide +kernel) ?_
      refine q_lconst C (n := 0) (v := 0) (by decide) (by decide +kernel) ?_
      refine q_ldc2 C (idx := 381) (v := 2) (q_m7 123 rfl rfl) (by decide +kernel) ?_
      refine q_siP C Rm (As := [.long a2.toInt64, .long ((0 : Int64)), .long ((2 : Int64))]) (rest := []) Y_X12_in Ys_X12_in ml_X12_121 (by decide) (by decide) hm (fun r9 e9 => c_X12_in _ _ _ _ _ _ _ _ _ e9) rfl rfl (Nat.le_of_ble_eq_true rfl) (by decide +kernel) (fun r5 hm z6 => ?_)
      refine q_if_ne C (off := 6) 34 hm (by decide +kernel) (by decide) (fun _ hm => ?_) (fun _ hm => ?_)
      · refine q_aload_n C (k4 := 0) 0 rfl (by decide +kernel) ?_
        refine q_vvS C Rm (As := []) (rest := []) Y_X12_keeps Yv_X12_keeps ml_X12_383 (by decide) (by decide) hm (fun h8 e9 => c_X12_keeps _ _ _ _ _ _ _ e9) rfl rfl (Nat.le_of_ble_eq_true rfl) (by decide +kernel) (fun h8 hm => ?_)
        refine q_iconst C (n := (-1)) (v := (-1)) (by decide) (by decide +kernel) ?_
        refine q_istore_n C Rm.1 (k4 := 3) (i := 3) rfl (lv' := [(3, .int ((-1 : Int32))), (0, .ref a0), (1, .int a1), (2, .int a2)]) rfl (by decide) (by decide +kernel) ?_
        refine q_iconst C (n := (-1)) (v := (-1)) (by decide) (by decide +kernel) ?_
        refine q_istore C Rm.1 (i := 4) (lv' := [(4, .int ((-1 : Int32))), (3, .int ((-1 : Int32))), (0, .ref a0), (1, .int a1), (2, .int a2)]) rfl (by decide) (by decide +kernel) ?_
        refine q_aload_n C (k4 := 0) 2 rfl (by decide +kernel) ?_
        refine q_iload_n C (k4 := 1) 3 rfl (by decide +kernel) ?_
        refine q_viS C Rm (As := [.int a1]) (rest := []) Y_X12_nearIn Yv_X12_nearIn ml_X12_402 (by decide) (by decide) hm (fun r9 h10 e9 => c_X12_nearIn _ _ _ _ _ _ _ _ e9) rfl rfl (Nat.le_of_ble_eq_true rfl) (by decide +kernel) (fun r9 h10 hm z11 => ?_)
        refine q_istore C Rm.1 (i := 5) (lv' := [(5, .int r9), (4, .int ((-1 : Int32))), (3, .int ((-1 : Int32))), (0, .ref a0), (1, .int a1), (2, .int a2)]) rfl (by decide) (by decide +kernel) ?_
        refine q_iconst C (n := 0) (v := 0) (by decide) (by decide +kernel) ?_
        refine q_istore C Rm.1 (i := 6) (lv' := [(6, .int ((0 : Int32))), (5, .int r9), (4, .int ((-1 : Int32))), (3, .int ((-1 : Int32))), (0, .ref a0), (1, .int a1), (2, .int a2)]) rfl (by decide) (by decide +kernel) ?_
        refine q_loc [4, 5, 6, 3, 2, 1, 0] rfl ?_
        exact v_X12_trade_53 C Rm K _ _ _ _ _ _ _ _ _ hm
      · refine q_bipush C (n := (-2)) (v := (-2)) (by decide) (by decide +kernel) ?_
        exact q_riS hm K rfl (by decide +kernel)
def m_X12_out_99 (k48 : q_H → Nat → Int32 → Int32 → Int32 → Int32 → Int32 → Option (Int32 × q_H)) (h : q_H) (x0 : Nat) (x1 : Int32) (x2 : Int32) (x3 : Int32) (x4 : Int32) (x5 : Int32) : Option (Int32 × q_H) :=
  k48 h x0 x1 x2 x3 x4 ((x5 + (1 : Int32)))
set_option maxRecDepth 20000 in
set_option maxHeartbeats 1000000 in
theorem v_X12_out_99 {Γ : q_G} {sz : Nat} {r : Int32} {h' : q_H} (C : q_C Γ cX12_out RX12) (Rm : q_Rm Γ 7 8 188 0 0) {k48 : q_H → Nat → Int32 → Int32 → Int32 → Int32 → Int32 → Option (Int32 × q_H)} (K : narrow .int (.int r) = .int r → q_K Γ cX12_out .ireturn sz h' 0 0 [.int r]) (hk48 : ∀ (h : q_H) (x0 : Nat) (x1 : Int32) (x2 : Int32) (x3 : Int32) (x4 : Int32) (x5 : Int32), k48 h x0 x1 x2 x3 x4 x5 = some (r, h') → q_V Γ sz 0 0 h [(0, .ref x0), (1, .int x1), (2, .int x2), (3, .int x3), (4, .int x4), (5, .int x5)] [] 48) : ∀ (h : q_H) (x0 : Nat) (x1 : Int32) (x2 : Int32) (x3 : Int32) (x4 : Int32) (x5 : Int32), m_X12_out_99 k48 h x0 x1 x2 x3 x4 x5 = some (r, h') → q_V Γ sz 0 0 h [(0, .ref x0), (1, .int x1), (2, .int x2), (3, .int x3), (4, .int x4), (5, .int x5)] [] 99 := by
  intro h x0 x1 x2 x3 x4 x5 hm
  unfold m_X12_out_99 at hm
  refine q_iinc C Rm.1 (i := 5) (n := 1) (v := (x5 + (1 : Int32))) 5 rfl (q_inc _ (by decide)) (lv' := [(5, .int ((x5 + (1 : Int32)))), (0, .ref x0), (1, .int x1), (2, .int x2), (3, .int x3), (4, .int x4)]) rfl (by decide) (by decide +kernel) ?_
  refine q_goto C (off := -54) 48 (by decide +kernel) (by decide) ?_
  refine q_loc [1, 2, 3, 4, 5, 0] rfl ?_
  exact hk48 _ _ _ _ _ _ _ hm
def m_X12_out_48  : Nat → q_H → Nat → Int32 → Int32 → Int32 → Int32 → Int32 → Option (Int32 × q_H)
  | 0, _, _, _, _, _, _, _ => none
  | n + 1, h, x0, x1, x2, x3, x4, x5 =>
    (q_gn h x0 12 20).bind fun v12 =>
    (q_ai h v12 1 ((3 : Int32))).bind fun v13 =>
    if v13 ≤ x5 then
      if x2 = 0 then
        some (x3, h)
      else
        some (x4, h)
    else
      (q_gn h x0 12 23).bind fun v14 =>
      (q_si h v14 1 x5 ((0 : Int32))).bind fun h15 =>
      (q_ca 12 h15 x0 (m_X12_nearIn h15 x0 x1)).bind fun (r16, h17) =>
      (q_gn h17 x0 12 23).bind fun v19 =>
      (q_si h17 v19 1 x5 ((-1 : Int32))).bind fun h20 =>
      if r16 < x4 then
        m_X12_out_99 (m_X12_out_48 n) h20 x0 x1 x2 x5 r16 x5
      else
        m_X12_out_99 (m_X12_out_48 n) h20 x0 x1 x2 x3 x4 x5
set_option maxRecDepth 20000 in
set_option maxHeartbeats 1000000 in
theorem v_X12_out_48 {Γ : q_G} {sz : Nat} {r : Int32} {h' : q_H} (C : q_C Γ cX12_out RX12) (Rm : q_Rm Γ 7 8 188 0 0)  (K : narrow .int (.int r) = .int r → q_K Γ cX12_out .ireturn sz h' 0 0 [.int r])  : ∀ (n : Nat) (h : q_H) (x0 : Nat) (x1 : Int32) (x2 : Int32) (x3 : Int32) (x4 : Int32) (x5 : Int32), m_X12_out_48 n h x0 x1 x2 x3 x4 x5 = some (r, h') → q_V Γ sz 0 0 h [(0, .ref x0), (1, .int x1), (2, .int x2), (3, .int x3), (4, .int x4), (5, .int x5)] [] 48 := by
  intro n
  induction n with
  | zero => intro h x0 x1 x2 x3 x4 x5 hm; cases hm
  | succ n ih =>
    intro h x0 x1 x2 x3 x4 x5 hm
    unfold m_X12_out_48 at hm
    refine q_iload C (i := 5) 5 rfl (by decide +kernel) ?_
    refine q_aload_n C (k4 := 0) 0 rfl (by decide +kernel) ?_
    refine q_getn C fl_12_39 hm (by decide +kernel) (fun v12 hm => ?_)
    refine q_iconst C (n := 3) (v := 3) (by decide) (by decide +kernel) ?_
    refine q_ir C hm (by decide +kernel) (fun v13 hm => ?_)
    refine q_icmp_ge C (off := 49) 105 hm (by decide +kernel) (by decide) (fun _ hm => ?_) (fun _ hm => ?_)
    · refine q_iload_n C (k4 := 2) 2 rfl (by decide +kernel) ?_
      refine q_if_ne C (off := 7) 113 hm (by decide +kernel) (by decide) (fun _ hm => ?_) (fun _ hm => ?_)
      · refine q_iload C (i := 4) 4 rfl (by decide +kernel) ?_
        exact q_riS hm K rfl (by decide +kernel)
      · refine q_iload_n C (k4 := 3) 3 rfl (by decide +kernel) ?_
        refine q_goto C (off := 5) 115 (by decide +kernel) (by decide) ?_
        exact q_riS hm K rfl (by decide +kernel)
    · refine q_aload_n C (k4 := 0) 0 rfl (by decide +kernel) ?_
      refine q_getn C fl_12_46 hm (by decide +kernel) (fun v14 hm => ?_)
      refine q_iload C (i := 5) 5 rfl (by decide +kernel) ?_
      refine q_iconst C (n := 0) (v := 0) (by decide) (by decide +kernel) ?_
      refine q_iw C hm (by decide +kernel) (fun h15 hm => ?_)
      refine q_aload_n C (k4 := 0) 0 rfl (by decide +kernel) ?_
      refine q_iload_n C (k4 := 1) 1 rfl (by decide +kernel) ?_
      refine q_viS C Rm (As := [.int x1]) (rest := []) Y_X12_nearIn Yv_X12_nearIn ml_X12_402 (by decide) (by decide) hm (fun r16 h17 e9 => c_X12_nearIn _ _ _ _ _ _ _ _ e9) rfl rfl (Nat.le_of_ble_eq_true rfl) (by decide +kernel) (fun r16 h17 hm z18 => ?_)
      refine q_istore C Rm.1 (i := 6) (lv' := [(6, .int r16), (0, .ref x0), (1, .int x1), (2, .int x2), (3, .int x3), (4, .int x4), (5, .int x5)]) rfl (by decide) (by decide +kernel) ?_
      refine q_aload_n C (k4 := 0) 1 rfl (by decide +kernel) ?_
      refine q_getn C fl_12_46 hm (by decide +kernel) (fun v19 hm => ?_)
      refine q_iload C (i := 5) 6 rfl (by decide +kernel) ?_
      refine q_iconst C (n := (-1)) (v := (-1)) (by decide) (by decide +kernel) ?_
      refine q_iw C hm (by decide +kernel) (fun h20 hm => ?_)
      refine q_iload C (i := 6) 0 rfl (by decide +kernel) ?_
      refine q_iload C (i := 4) 5 rfl (by decide +kernel) ?_
      refine q_icmp_lt C (off := 6) 92 hm (by decide +kernel) (by decide) (fun _ hm => ?_) (fun _ hm => ?_)
      · refine q_iload C (i := 5) 6 rfl (by decide +kernel) ?_
        refine q_istore_n C Rm.1 (k4 := 3) (i := 3) rfl (lv' := [(3, .int x5), (6, .int r16), (0, .ref x0), (1, .int x1), (2, .int x2), (4, .int x4), (5, .int x5)]) rfl (by decide) (by decide +kernel) ?_
        refine q_iload C (i := 6) 1 rfl (by decide +kernel) ?_
        refine q_istore C Rm.1 (i := 4) (lv' := [(4, .int r16), (3, .int x5), (6, .int r16), (0, .ref x0), (1, .int x1), (2, .int x2), (5, .int x5)]) rfl (by decide) (by decide +kernel) ?_
        refine q_loc [3, 4, 5, 1, 0, 6] rfl ?_
        exact v_X12_out_99 C Rm K ih _ _ _ _ _ _ _ hm
      · refine q_goto C (off := 10) 99 (by decide +kernel) (by decide) ?_
        refine q_loc [1, 2, 3, 4, 5, 6] rfl ?_
        exact v_X12_out_99 C Rm K ih _ _ _ _ _ _ _ hm
def m_X12_out (h : q_H) (a0 : Nat) (a1 : Int32) (a2 : Int32) : Option (Int32 × q_H) :=
  (q_ca 12 h a0 (m_X12_isRope h a0)).bind fun r1 =>
  if r1 = 0 then
    some ((-2 : Int32), h)
  else
    (m_X12_in a1.toInt64 ((1 : Int64)) ((40 : Int64))).bind fun r3 =>
    if r3 = 0 then
      some ((-2 : Int32), h)
    else
      (m_X12_in a2.toInt64 ((0 : Int64)) ((1 : Int64))).bind fun r5 =>
      if r5 = 0 then
        some ((-2 : Int32), h)
      else
        (q_ca 12 h a0 (m_X12_keeps h a0)).bind fun h8 =>
        (q_ca 12 h8 a0 (m_X12_nearIn h8 a0 a1)).bind fun (r9, h10) =>
        m_X12_out_48 q_fu h10 a0 a1 a2 ((-1 : Int32)) r9 ((0 : Int32))
set_option maxRecDepth 20000 in
set_option maxHeartbeats 1000000 in
theorem c_X12_out (l : Launch) (base : Nat) (D : va_G) (tc : Nat → ClassId) (sz : Nat) (h : q_H) (a0 : Nat) (a1 : Int32) (a2 : Int32) {r : Int32} {h' : q_H} (hm : m_X12_out h a0 a1 a2 = some (r, h')) : q_M l yX12_out cX12_out 7 (some .int) 8 188 0 0 base D tc [.ref a0, .int a1, .int a2] sz h (some (.int r)) sz h' := by
  refine q_starti (by decide) (Nat.le_of_ble_eq_true rfl) (fun Γ B K => ?_)
  obtain ⟨C, Rm, -⟩ := B
  have C : q_C Γ cX12_out RX12 := C
  show q_V Γ sz 0 0 h [(0, .ref a0), (1, .int a1), (2, .int a2)] [] 0
  unfold m_X12_out at hm
  refine q_aload_n C (k4 := 0) 0 rfl (by decide +kernel) ?_
  refine q_viP C Rm (As := []) (rest := []) Y_X12_isRope Yv_X12_isRope ml_X12_299 (by decide) (by decide) hm (fun r9 e9 => c_X12_isRope _ _ _ _ _ _ _ e9) rfl rfl (Nat.le_of_ble_eq_true rfl) (by decide +kernel) (fun r1 hm z2 => ?_)
  refine q_if_eq C (off := 25) 29 hm (by decide +kernel) (by decide) (fun _ hm => ?_) (fun _ hm => ?_)
  · refine q_bipush C (n := (-2)) (v := (-2)) (by decide) (by decide +kernel) ?_
    exact q_riS hm K rfl (by decide +kernel)
  · refine q_iload_n C (k4 := 1) 1 rfl (by decide +kernel) ?_
    refine q_i2l C (by decide +kernel) ?_
    refine q_lconst C (n := 1) (v := 1) (by decide) (by decide +kernel) ?_
    refine q_ldc2 C (idx := 400) (v := 40) (q_m7 156 rfl rfl) (by decide +kernel) ?_
    refine q_siP C Rm (As := [.long a1.toInt64, .long ((1 : Int64)), .long ((40 : Int64))]) (rest := []) Y_X12_in Ys_X12_in ml_X12_121 (by decide) (by decide) hm (fun r9 e9 => c_X12_in _ _ _ _ _ _ _ _ _ e9) rfl rfl (Nat.le_of_ble_eq_true rfl) (by decide +kernel) (fun r3 hm z4 => ?_)
    refine q_if_eq C (off := 13) 29 hm (by decide +kernel) (by decide) (fun _ hm => ?_) (fun _ hm => ?_)
    · refine q_bipush C (n := (-2)) (v := (-2)) (by decide) (by decide +kernel) ?_
      exact q_riS hm K rfl (by decide +kernel)
    · refine q_iload_n C (k4 := 2) 2 rfl (by decide +kernel) ?_
      refine q_i2l C (by decide +kernel) ?_
      refine q_lconst C (n := 0) (v := 0) (by decide) (by decide +kernel) ?_
      refine q_lconst C (n := 1) (v := 1) (by decide) (by decide +kernel) ?_
      refine q_siP C Rm (As := [.long a2.toInt64, .long ((0 : Int64)), .long ((1 : Int64))]) (rest := []) Y_X12_in Ys_X12_in ml_X12_121 (by decide) (by decide) hm (fun r9 e9 => c_X12_in _ _ _ _ _ _ _ _ _ e9) rfl rfl (Nat.le_of_ble_eq_true rfl) (by decide +kernel) (fun r5 hm z6 => ?_)
      refine q_if_ne C (off := 6) 32 hm (by decide +kernel) (by decide) (fun _ hm => ?_) (fun _ hm => ?_)
      · refine q_aload_n C (k4 := 0) 0 rfl (by decide +kernel) ?_
        refine q_vvS C Rm (As := []) (rest := []) Y_X12_keeps Yv_X12_keeps ml_X12_383 (by decide) (by decide) hm (fun h8 e9 => c_X12_keeps _ _ _ _ _ _ _ e9) rfl rfl (Nat.le_of_ble_eq_true rfl) (by decide +kernel) (fun h8 hm => ?_)
        refine q_iconst C (n := (-1)) (v := (-1)) (by decide) (by decide +kernel) ?_
        refine q_istore_n C Rm.1 (k4 := 3) (i := 3) rfl (lv' := [(3, .int ((-1 : Int32))), (0, .ref a0), (1, .int a1), (2, .int a2)]) rfl (by decide) (by decide +kernel) ?_
        refine q_aload_n C (k4 := 0) 1 rfl (by decide +kernel) ?_
        refine q_iload_n C (k4 := 1) 2 rfl (by decide +kernel) ?_
        refine q_viS C Rm (As := [.int a1]) (rest := []) Y_X12_nearIn Yv_X12_nearIn ml_X12_402 (by decide) (by decide) hm (fun r9 h10 e9 => c_X12_nearIn _ _ _ _ _ _ _ _ e9) rfl rfl (Nat.le_of_ble_eq_true rfl) (by decide +kernel) (fun r9 h10 hm z11 => ?_)
        refine q_istore C Rm.1 (i := 4) (lv' := [(4, .int r9), (3, .int ((-1 : Int32))), (0, .ref a0), (1, .int a1), (2, .int a2)]) rfl (by decide) (by decide +kernel) ?_
        refine q_iconst C (n := 0) (v := 0) (by decide) (by decide +kernel) ?_
        refine q_istore C Rm.1 (i := 5) (lv' := [(5, .int ((0 : Int32))), (4, .int r9), (3, .int ((-1 : Int32))), (0, .ref a0), (1, .int a1), (2, .int a2)]) rfl (by decide) (by decide +kernel) ?_
        refine q_loc [3, 4, 5, 2, 1, 0] rfl ?_
        exact v_X12_out_48 C Rm K _ _ _ _ _ _ _ _ hm
      · refine q_bipush C (n := (-2)) (v := (-2)) (by decide) (by decide +kernel) ?_
        exact q_riS hm K rfl (by decide +kernel)
def m_X12_isRest_2  : Nat → q_H → Nat → Int32 → Int32 → Int32 → Option Int32
  | 0, _, _, _, _, _ => none
  | n + 1, h0, x0, x1, x2, x3 =>
    if (4 : Int32) ≤ x3 then
      some ((1 : Int32))
    else
      (q_gn h0 x0 12 28).bind fun v1 =>
      (q_ai h0 v1 1 (((2 : Int32) * (((4 : Int32) * x3) + x2)))).bind fun v2 =>
      (q_gn h0 x0 12 28).bind fun v3 =>
      (q_ai h0 v3 1 (((2 : Int32) * (((4 : Int32) * x1) + x2)))).bind fun v4 =>
      if v4 < v2 then
        some ((0 : Int32))
      else
        (q_gn h0 x0 12 28).bind fun v5 =>
        (q_ai h0 v5 1 ((((2 : Int32) * (((4 : Int32) * x1) + x3)) + (1 : Int32)))).bind fun v6 =>
        (q_gn h0 x0 12 28).bind fun v7 =>
        (q_ai h0 v7 1 ((((2 : Int32) * (((4 : Int32) * x1) + x2)) + (1 : Int32)))).bind fun v8 =>
        if v6 ≤ v8 then
          m_X12_isRest_2 n h0 x0 x1 x2 ((x3 + (1 : Int32)))
        else
          some ((0 : Int32))
set_option maxRecDepth 20000 in
set_option maxHeartbeats 1000000 in
theorem v_X12_isRest_2 {Γ : q_G} {sz : Nat} {h0 : q_H} {r : Int32} (C : q_C Γ cX12_isRest RX12) (Rm : q_Rm Γ 4 0 0 0 0)  (K : narrow .boolean (.int r) = .int r → q_K Γ cX12_isRest .ireturn sz h0 0 0 [.int r])  : ∀ (n : Nat) (x0 : Nat) (x1 : Int32) (x2 : Int32) (x3 : Int32), m_X12_isRest_2 n h0 x0 x1 x2 x3 = some r → q_V Γ sz 0 0 h0 [(0, .ref x0), (1, .int x1), (2, .int x2), (3, .int x3)] [] 2 := by
  intro n
  induction n with
  | zero => intro x0 x1 x2 x3 hm; cases hm
  | succ n ih =>
    intro x0 x1 x2 x3 hm
    unfold m_X12_isRest_2 at hm
    refine q_iload_n C (k4 := 3) 3 rfl (by decide +kernel) ?_
    refine q_iconst C (n := 4) (v := 4) (by decide) (by decide +kernel) ?_
    refine q_icmp_ge C (off := 69) 73 hm (by decide +kernel) (by decide) (fun _ hm => ?_) (fun _ hm => ?_)
    · refine q_iconst C (n := 1) (v := 1) (by decide) (by decide +kernel) ?_
      exact q_riP hm K q_z1 (by decide +kernel)
    · refine q_aload_n C (k4 := 0) 0 rfl (by decide +kernel) ?_
      refine q_getn C fl_12_58 hm (by decide +kernel) (fun v1 hm => ?_)
      refine q_iconst C (n := 2) (v := 2) (by decide) (by decide +kernel) ?_
      refine q_iconst C (n := 4) (v := 4) (by decide) (by decide +kernel) ?_
      refine q_iload_n C (k4 := 3) 3 rfl (by decide +kernel) ?_
      refine q_imul C (by decide +kernel) ?_
      refine q_iload_n C (k4 := 2) 2 rfl (by decide +kernel) ?_
      refine q_iadd C (by decide +kernel) ?_
      refine q_imul C (by decide +kernel) ?_
      refine q_ir C hm (by decide +kernel) (fun v2 hm => ?_)
      refine q_aload_n C (k4 := 0) 0 rfl (by decide +kernel) ?_
      refine q_getn C fl_12_58 hm (by decide +kernel) (fun v3 hm => ?_)
      refine q_iconst C (n := 2) (v := 2) (by decide) (by decide +kernel) ?_
      refine q_iconst C (n := 4) (v := 4) (by decide) (by decide +kernel) ?_
      refine q_iload_n C (k4 := 1) 1 rfl (by decide +kernel) ?_
      refine q_imul C (by decide +kernel) ?_
      refine q_iload_n C (k4 := 2) 2 rfl (by decide +kernel) ?_
      refine q_iadd C (by decide +kernel) ?_
      refine q_imul C (by decide +kernel) ?_
      refine q_ir C hm (by decide +kernel) (fun v4 hm => ?_)
      refine q_icmp_gt C (off := 34) 65 hm (by decide +kernel) (by decide) (fun _ hm => ?_) (fun _ hm => ?_)
      · refine q_iconst C (n := 0) (v := 0) (by decide) (by decide +kernel) ?_
        exact q_riP hm K q_z0 (by decide +kernel)
      · refine q_aload_n C (k4 := 0) 0 rfl (by decide +kernel) ?_
        refine q_getn C fl_12_58 hm (by decide +kernel) (fun v5 hm => ?_)
        refine q_iconst C (n := 2) (v := 2) (by decide) (by decide +kernel) ?_
        refine q_iconst C (n := 4) (v := 4) (by decide) (by decide +kernel) ?_
        refine q_iload_n C (k4 := 1) 1 rfl (by decide +kernel) ?_
        refine q_imul C (by decide +kernel) ?_
        refine q_iload_n C (k4 := 3) 3 rfl (by decide +kernel) ?_
        refine q_iadd C (by decide +kernel) ?_
        refine q_imul C (by decide +kernel) ?_
        refine q_iconst C (n := 1) (v := 1) (by decide) (by decide +kernel) ?_
        refine q_iadd C (by decide +kernel) ?_
        refine q_ir C hm (by decide +kernel) (fun v6 hm => ?_)
        refine q_aload_n C (k4 := 0) 0 rfl (by decide +kernel) ?_
        refine q_getn C fl_12_58 hm (by decide +kernel) (fun v7 hm => ?_)
        refine q_iconst C (n := 2) (v := 2) (by decide) (by decide +kernel) ?_
        refine q_iconst C (n := 4) (v := 4) (by decide) (by decide +kernel) ?_
        refine q_iload_n C (k4 := 1) 1 rfl (by decide +kernel) ?_
        refine q_imul C (by decide +kernel) ?_
        refine q_iload_n C (k4 := 2) 2 rfl (by decide +kernel) ?_
        refine q_iadd C (by decide +kernel) ?_
        refine q_imul C (by decide +kernel) ?_
        refine q_iconst C (n := 1) (v := 1) (by decide) (by decide +kernel) ?_
        refine q_iadd C (by decide +kernel) ?_
        refine q_ir C hm (by decide +kernel) (fun v8 hm => ?_)
        refine q_icmp_le C (off := 5) 67 hm (by decide +kernel) (by decide) (fun _ hm => ?_) (fun _ hm => ?_)
        · refine q_iinc C Rm.1 (i := 3) (n := 1) (v := (x3 + (1 : Int32))) 3 rfl (q_inc _ (by decide)) (lv' := [(3, .int ((x3 + (1 : Int32)))), (0, .ref x0), (1, .int x1), (2, .int x2)]) rfl (by decide) (by decide +kernel) ?_
          refine q_goto C (off := -68) 2 (by decide +kernel) (by decide) ?_
          refine q_loc [1, 2, 3, 0] rfl ?_
          exact ih _ _ _ _ hm
        · refine q_iconst C (n := 0) (v := 0) (by decide) (by decide +kernel) ?_
          exact q_riP hm K q_z0 (by decide +kernel)
def m_X12_isRest (h0 : q_H) (a0 : Nat) (a1 : Int32) (a2 : Int32) : Option Int32 :=
  m_X12_isRest_2 q_fu h0 a0 a1 a2 ((0 : Int32))
set_option maxRecDepth 20000 in
set_option maxHeartbeats 1000000 in
theorem c_X12_isRest (l : Launch) (base : Nat) (D : va_G) (tc : Nat → ClassId) (sz : Nat) (h0 : q_H) (a0 : Nat) (a1 : Int32) (a2 : Int32) {r : Int32} (hm : m_X12_isRest h0 a0 a1 a2 = some r) : q_M l yX12_isRest cX12_isRest 4 (some .boolean) 0 0 0 0 base D tc [.ref a0, .int a1, .int a2] sz h0 (some (.int r)) sz h0 := by
  refine q_starti (by decide) (Nat.le_of_ble_eq_true rfl) (fun Γ B K => ?_)
  obtain ⟨C, Rm, -⟩ := B
  have C : q_C Γ cX12_isRest RX12 := C
  show q_V Γ sz 0 0 h0 [(0, .ref a0), (1, .int a1), (2, .int a2)] [] 0
  unfold m_X12_isRest at hm
  refine q_iconst C (n := 0) (v := 0) (by decide) (by decide +kernel) ?_
  refine q_istore_n C Rm.1 (k4 := 3) (i := 3) rfl (lv' := [(3, .int ((0 : Int32))), (0, .ref a0), (1, .int a1), (2, .int a2)]) rfl (by decide) (by decide +kernel) ?_
  refine q_loc [1, 2, 3, 0] rfl ?_
  exact v_X12_isRest_2 C Rm K _ _ _ _ _ hm
def m_X12_fillsRest (h : q_H) (a0 : Nat) (a1 : Int32) (a2 : Int32) (a3 : Int32) (a4 : Int32) : Option q_H :=
  (q_gn h a0 12 23).bind fun v1 =>
  (q_si h v1 1 a1 ((a3 / (4 : Int32)))).bind fun h2 =>
  (q_gn h2 a0 12 23).bind fun v3 =>
  (q_si h2 v3 1 a2 ((q_rmi a3 ((4 : Int32))))).bind fun h4 =>
  (q_ca 12 h4 a0 (m_X12_passesAll h4 a0 a4)).bind fun h6 =>
  (q_gn h6 a0 12 23).bind fun v7 =>
  (q_si h6 v7 1 a1 ((-1 : Int32))).bind fun h8 =>
  (q_gn h8 a0 12 23).bind fun v9 =>
  (q_si h8 v9 1 a2 ((-1 : Int32))).bind fun h10 =>
  (q_gn h10 a0 12 28).bind fun v11 =>
  (q_ca 12 h10 a0 (m_X12_towards h10 a0 a1)).bind fun r12 =>
  (q_ca 12 h10 a0 (m_X12_windOf h10 a0 a1)).bind fun r14 =>
  (q_si h10 v11 1 (((2 : Int32) * a3)) ((r12 + r14))).bind fun h16 =>
  (q_gn h16 a0 12 28).bind fun v17 =>
  (q_ca 12 h16 a0 (m_X12_towards h16 a0 a2)).bind fun r18 =>
  (q_ca 12 h16 a0 (m_X12_windOf h16 a0 a2)).bind fun r20 =>
  (q_si h16 v17 1 ((((2 : Int32) * a3) + (1 : Int32))) ((r18 + r20))).bind fun h22 =>
  (q_ca 12 h22 a0 (m_X12_laysBack h22 a0)).bind fun h24 =>
  some h24
set_option maxRecDepth 20000 in
set_option maxHeartbeats 1000000 in
theorem c_X12_fillsRest (l : Launch) (base : Nat) (D : va_G) (tc : Nat → ClassId) (sz : Nat) (h : q_H) (a0 : Nat) (a1 : Int32) (a2 : Int32) (a3 : Int32) (a4 : Int32) {h' : q_H} (hm : m_X12_fillsRest h a0 a1 a2 a3 a4 = some h') : q_M l yX12_fillsRest cX12_fillsRest 5 none 7 166 0 0 base D tc [.ref a0, .int a1, .int a2, .int a3, .int a4] sz h none sz h' := by
  refine q_startv (by decide) (Nat.le_of_ble_eq_true rfl) (fun Γ B K => ?_)
  obtain ⟨C, Rm, -⟩ := B
  have C : q_C Γ cX12_fillsRest RX12 := C
  show q_V Γ sz 0 0 h [(0, .ref a0), (1, .int a1), (2, .int a2), (3, .int a3), (4, .int a4)] [] 0
  unfold m_X12_fillsRest at hm
  refine q_aload_n C (k4 := 0) 0 rfl (by decide +kernel) ?_
  refine q_getn C fl_12_46 hm (by decide +kernel) (fun v1 hm => ?_)
  refine q_iload_n C (k4 := 1) 1 rfl (by decide +kernel) ?_
  refine q_iload_n C (k4 := 3) 3 rfl (by decide +kernel) ?_
  refine q_iconst C (n := 4) (v := 4) (by decide) (by decide +kernel) ?_
  refine q_idiv C (by decide) (by decide +kernel) ?_
  refine q_iw C hm (by decide +kernel) (fun h2 hm => ?_)
  refine q_aload_n C (k4 := 0) 0 rfl (by decide +kernel) ?_
  refine q_getn C fl_12_46 hm (by decide +kernel) (fun v3 hm => ?_)
  refine q_iload_n C (k4 := 2) 2 rfl (by decide +kernel) ?_
  refine q_iload_n C (k4 := 3) 3 rfl (by decide +kernel) ?_
  refine q_iconst C (n := 4) (v := 4) (by decide) (by decide +kernel) ?_
  refine q_irem C (by decide) (by decide +kernel) ?_
  refine q_iw C hm (by decide +kernel) (fun h4 hm => ?_)
  refine q_aload_n C (k4 := 0) 0 rfl (by decide +kernel) ?_
  refine q_iload C (i := 4) 4 rfl (by decide +kernel) ?_
  refine q_vvS C Rm (As := [.int a4]) (rest := []) Y_X12_passesAll Yv_X12_passesAll ml_X12_386 (by decide) (by decide) hm (fun h6 e9 => c_X12_passesAll _ _ _ _ _ _ _ _ e9) rfl rfl (Nat.le_of_ble_eq_true rfl) (by decide +kernel) (fun h6 hm => ?_)
  refine q_aload_n C (k4 := 0) 0 rfl (by decide +kernel) ?_
  refine q_getn C fl_12_46 hm (by decide +kernel) (fun v7 hm => ?_)
  refine q_iload_n C (k4 := 1) 1 rfl (by decide +kernel) ?_
  refine q_iconst C (n := (-1)) (v := (-1)) (by decide) (by decide +kernel) ?_
  refine q_iw C hm (by decide +kernel) (fun h8 hm => ?_)
  refine q_aload_n C (k4 := 0) 0 rfl (by decide +kernel) ?_
  refine q_getn C fl_12_46 hm (by decide +kernel) (fun v9 hm => ?_)
  refine q_iload_n C (k4 := 2) 2 rfl (by decide +kernel) ?_
  refine q_iconst C (n := (-1)) (v := (-1)) (by decide) (by decide +kernel) ?_
  refine q_iw C hm (by decide +kernel) (fun h10 hm => ?_)
  refine q_aload_n C (k4 := 0) 0 rfl (by decide +kernel) ?_
  refine q_getn C fl_12_58 hm (by decide +kernel) (fun v11 hm => ?_)
  refine q_iconst C (n := 2) (v := 2) (by decide) (by decide +kernel) ?_
  refine q_iload_n C (k4 := 3) 3 rfl (by decide +kernel) ?_
  refine q_imul C (by decide +kernel) ?_
  refine q_aload_n C (k4 := 0) 0 rfl (by decide +kernel) ?_
  refine q_iload_n C (k4 := 1) 1 rfl (by decide +kernel) ?_
  refine q_viP C Rm (As := [.int a1]) (rest := [.int (((2 : Int32) * a3)), .ref v11]) Y_X12_towards Yv_X12_towards ml_X12_315 (by decide) (by decide) hm (fun r9 e9 => c_X12_towards _ _ _ _ _ _ _ _ e9) rfl rfl (Nat.le_of_ble_eq_true rfl) (by decide +kernel) (fun r12 hm z13 => ?_)
  refine q_aload_n C (k4 := 0) 0 rfl (by decide +kernel) ?_
  refine q_iload_n C (k4 := 1) 1 rfl (by decide +kernel) ?_
  refine q_viP C Rm (As := [.int a1]) (rest := [.int r12, .int (((2 : Int32) * a3)), .ref v11]) Y_X12_windOf Yv_X12_windOf ml_X12_293 (by decide) (by decide) hm (fun r9 e9 => c_X12_windOf _ _ _ _ _ _ _ _ e9) rfl rfl (Nat.le_of_ble_eq_true rfl) (by decide +kernel) (fun r14 hm z15 => ?_)
  refine q_iadd C (by decide +kernel) ?_
  refine q_iw C hm (by decide +kernel) (fun h16 hm => ?_)
  refine q_aload_n C (k4 := 0) 0 rfl (by decide +kernel) ?_
  refine q_getn C fl_12_58 hm (by decide +kernel) (fun v17 hm => ?_)
  refine q_iconst C (n := 2) (v := 2) (by decide) (by decide +kernel) ?_
  refine q_iload_n C (k4 := 3) 3 rfl (by decide +kernel) ?_
  refine q_imul C (by decide +kernel) ?_
  refine q_iconst C (n := 1) (v := 1) (by decide) (by decide +kernel) ?_
  refine q_iadd C (by decide +kernel) ?_
  refine q_aload_n C (k4 := 0) 0 rfl (by decide +kernel) ?_
  refine q_iload_n C (k4 := 2) 2 rfl (by decide +kernel) ?_
  refine q_viP C Rm (As := [.int a2]) (rest := [.int ((((2 : Int32) * a3) + (1 : Int32))), .ref v17]) Y_X12_towards Yv_X12_towards ml_X12_315 (by decide) (by decide) hm (fun r9 e9 => c_X12_towards _ _ _ _ _ _ _ _ e9) rfl rfl (Nat.le_of_ble_eq_true rfl) (by decide +kernel) (fun r18 hm z19 => ?_)
  refine q_aload_n C (k4 := 0) 0 rfl (by decide +kernel) ?_
  refine q_iload_n C (k4 := 2) 2 rfl (by decide +kernel) ?_
  refine q_viP C Rm (As := [.int a2]) (rest := [.int r18, .int ((((2 : Int32) * a3) + (1 : Int32))), .ref v17]) Y_X12_windOf Yv_X12_windOf ml_X12_293 (by decide) (by decide) hm (fun r9 e9 => c_X12_windOf _ _ _ _ _ _ _ _ e9) rfl rfl (Nat.le_of_ble_eq_true rfl) (by decide +kernel) (fun r20 hm z21 => ?_)
  refine q_iadd C (by decide +kernel) ?_
  refine q_iw C hm (by decide +kernel) (fun h22 hm => ?_)
  refine q_aload_n C (k4 := 0) 0 rfl (by decide +kernel) ?_
  refine q_vvS C Rm (As := []) (rest := []) Y_X12_laysBack Yv_X12_laysBack ml_X12_389 (by decide) (by decide) hm (fun h24 e9 => c_X12_laysBack _ _ _ _ _ _ _ e9) rfl rfl (Nat.le_of_ble_eq_true rfl) (by decide +kernel) (fun h24 hm => ?_)
  exact q_rvS hm K (by decide +kernel)
