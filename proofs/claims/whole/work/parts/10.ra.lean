def m_X12_in (a0 : Int64) (a2 : Int64) (a4 : Int64) : Option Int32 :=
  if (lg_cmp a0 a2) < 0 then
    some ((0 : Int32))
  else
    if 0 < (lg_cmp a0 a4) then
      some ((0 : Int32))
    else
      some ((1 : Int32))
set_option maxRecDepth 20000 in
set_option maxHeartbeats 1000000 in
theorem c_X12_in (l : Launch) (base : Nat) (D : va_G) (tc : Nat → ClassId) (sz : Nat) (h0 : q_H) (a0 : Int64) (a2 : Int64) (a4 : Int64) {r : Int32} (hm : m_X12_in a0 a2 a4 = some r) : q_M l yX12_in cX12_in 6 (some .boolean) 0 0 0 0 base D tc [.long a0, .long a2, .long a4] sz h0 (some (.int r)) sz h0 := by
  refine q_starti (by decide) (Nat.le_of_ble_eq_true rfl) (fun Γ B K => ?_)
  obtain ⟨C, Rm, -⟩ := B
  have C : q_C Γ cX12_in RX12 := C
  show q_V Γ sz 0 0 h0 [(0, .long a0), (2, .long a2), (4, .long a4)] [] 0
  unfold m_X12_in at hm
  refine q_lload_n C (k4 := 0) 0 rfl (by decide +kernel) ?_
  refine q_lload_n C (k4 := 2) 1 rfl (by decide +kernel) ?_
  refine q_lcmp C (by decide +kernel) ?_
  refine q_if_lt C (off := 14) 17 hm (by decide +kernel) (by decide) (fun _ hm => ?_) (fun _ hm => ?_)
  · refine q_iconst C (n := 0) (v := 0) (by decide) (by decide +kernel) ?_
    exact q_riP hm K q_z0 (by decide +kernel)
  · refine q_lload_n C (k4 := 0) 0 rfl (by decide +kernel) ?_
    refine q_lload C (i := 4) 2 rfl (by decide +kernel) ?_
    refine q_lcmp C (by decide +kernel) ?_
    refine q_if_gt C (off := 7) 17 hm (by decide +kernel) (by decide) (fun _ hm => ?_) (fun _ hm => ?_)
    · refine q_iconst C (n := 0) (v := 0) (by decide) (by decide +kernel) ?_
      exact q_riP hm K q_z0 (by decide +kernel)
    · refine q_iconst C (n := 1) (v := 1) (by decide) (by decide +kernel) ?_
      refine q_goto C (off := 4) 18 (by decide +kernel) (by decide) ?_
      exact q_riP hm K q_z1 (by decide +kernel)
def m_X12_isOf (a0 : Int32) (a1 : Int32) : Option Int32 :=
  if ((a0 >>> (a1 &&& 31)) &&& (1 : Int32)) = (1 : Int32) then
    some ((1 : Int32))
  else
    some ((0 : Int32))
set_option maxRecDepth 20000 in
set_option maxHeartbeats 1000000 in
theorem c_X12_isOf (l : Launch) (base : Nat) (D : va_G) (tc : Nat → ClassId) (sz : Nat) (h0 : q_H) (a0 : Int32) (a1 : Int32) {r : Int32} (hm : m_X12_isOf a0 a1 = some r) : q_M l yX12_isOf cX12_isOf 2 (some .boolean) 0 0 0 0 base D tc [.int a0, .int a1] sz h0 (some (.int r)) sz h0 := by
  refine q_starti (by decide) (Nat.le_of_ble_eq_true rfl) (fun Γ B K => ?_)
  obtain ⟨C, Rm, -⟩ := B
  have C : q_C Γ cX12_isOf RX12 := C
  show q_V Γ sz 0 0 h0 [(0, .int a0), (1, .int a1)] [] 0
  unfold m_X12_isOf at hm
  refine q_iload_n C (k4 := 0) 0 rfl (by decide +kernel) ?_
  refine q_iload_n C (k4 := 1) 1 rfl (by decide +kernel) ?_
  refine q_ishr C (by decide +kernel) ?_
  refine q_iconst C (n := 1) (v := 1) (by decide) (by decide +kernel) ?_
  refine q_iand C (by decide +kernel) ?_
  refine q_iconst C (n := 1) (v := 1) (by decide) (by decide +kernel) ?_
  refine q_icmp_ne C (off := 7) 13 hm (by decide +kernel) (by decide) (fun _ hm => ?_) (fun _ hm => ?_)
  · refine q_iconst C (n := 0) (v := 0) (by decide) (by decide +kernel) ?_
    exact q_riP hm K q_z0 (by decide +kernel)
  · refine q_iconst C (n := 1) (v := 1) (by decide) (by decide +kernel) ?_
    refine q_goto C (off := 4) 14 (by decide +kernel) (by decide) ?_
    exact q_riP hm K q_z1 (by decide +kernel)
def m_X12_bits_4  : Nat → Int32 → Int32 → Option Int32
  | 0, _, _ => none
  | n + 1, x1, x2 =>
    if x2 = 0 then
      some x1
    else
      m_X12_bits_4 n ((x1 + (1 : Int32))) ((x2 &&& (x2 - (1 : Int32))))
set_option maxRecDepth 20000 in
set_option maxHeartbeats 1000000 in
theorem v_X12_bits_4 {Γ : q_G} {sz : Nat} {r : Int32} {h0 : q_H} (C : q_C Γ cX12_bits RX12) (Rm : q_Rm Γ 3 0 0 0 0)  (K : narrow .int (.int r) = .int r → q_K Γ cX12_bits .ireturn sz h0 0 0 [.int r])  : ∀ (n : Nat) (x1 : Int32) (x2 : Int32), m_X12_bits_4 n x1 x2 = some r → q_V Γ sz 0 0 h0 [(1, .int x1), (2, .int x2)] [] 4 := by
  intro n
  induction n with
  | zero => intro x1 x2 hm; cases hm
  | succ n ih =>
    intro x1 x2 hm
    unfold m_X12_bits_4 at hm
    refine q_iload_n C (k4 := 2) 1 rfl (by decide +kernel) ?_
    refine q_if_eq C (off := 15) 20 hm (by decide +kernel) (by decide) (fun _ hm => ?_) (fun _ hm => ?_)
    · refine q_iload_n C (k4 := 1) 0 rfl (by decide +kernel) ?_
      exact q_riP hm K rfl (by decide +kernel)
    · refine q_iinc C Rm.1 (i := 1) (n := 1) (v := (x1 + (1 : Int32))) 0 rfl (q_inc _ (by decide)) (lv' := [(1, .int ((x1 + (1 : Int32)))), (2, .int x2)]) rfl (by decide) (by decide +kernel) ?_
      refine q_iload_n C (k4 := 2) 1 rfl (by decide +kernel) ?_
      refine q_iload_n C (k4 := 2) 1 rfl (by decide +kernel) ?_
      refine q_iconst C (n := 1) (v := 1) (by decide) (by decide +kernel) ?_
      refine q_isub C (by decide +kernel) ?_
      refine q_iand C (by decide +kernel) ?_
      refine q_istore_n C Rm.1 (k4 := 2) (i := 2) rfl (lv' := [(2, .int ((x2 &&& (x2 - (1 : Int32))))), (1, .int ((x1 + (1 : Int32))))]) rfl (by decide) (by decide +kernel) ?_
      refine q_goto C (off := -13) 4 (by decide +kernel) (by decide) ?_
      refine q_loc [1, 0] rfl ?_
      exact ih _ _ hm
def m_X12_bits (a0 : Int32) : Option Int32 :=
  m_X12_bits_4 q_fu ((0 : Int32)) a0
set_option maxRecDepth 20000 in
set_option maxHeartbeats 1000000 in
theorem c_X12_bits (l : Launch) (base : Nat) (D : va_G) (tc : Nat → ClassId) (sz : Nat) (h0 : q_H) (a0 : Int32) {r : Int32} (hm : m_X12_bits a0 = some r) : q_M l yX12_bits cX12_bits 3 (some .int) 0 0 0 0 base D tc [.int a0] sz h0 (some (.int r)) sz h0 := by
  refine q_starti (by decide) (Nat.le_of_ble_eq_true rfl) (fun Γ B K => ?_)
  obtain ⟨C, Rm, -⟩ := B
  have C : q_C Γ cX12_bits RX12 := C
  show q_V Γ sz 0 0 h0 [(0, .int a0)] [] 0
  unfold m_X12_bits at hm
  refine q_iconst C (n := 0) (v := 0) (by decide) (by decide +kernel) ?_
  refine q_istore_n C Rm.1 (k4 := 1) (i := 1) rfl (lv' := [(1, .int ((0 : Int32))), (0, .int a0)]) rfl (by decide) (by decide +kernel) ?_
  refine q_iload_n C (k4 := 0) 1 rfl (by decide +kernel) ?_
  refine q_istore_n C Rm.1 (k4 := 2) (i := 2) rfl (lv' := [(2, .int a0), (1, .int ((0 : Int32))), (0, .int a0)]) rfl (by decide) (by decide +kernel) ?_
  refine q_loc [1, 0] rfl ?_
  exact v_X12_bits_4 C Rm K _ _ _ hm
def m_X12_within (a0 : Int32) (a1 : Int32) (a2 : Int32) : Option Int32 :=
  if a1 ≤ a0 then
    if a0 ≤ a2 then
      some a0
    else
      some a2
  else
    some a1
set_option maxRecDepth 20000 in
set_option maxHeartbeats 1000000 in
theorem c_X12_within (l : Launch) (base : Nat) (D : va_G) (tc : Nat → ClassId) (sz : Nat) (h0 : q_H) (a0 : Int32) (a1 : Int32) (a2 : Int32) {r : Int32} (hm : m_X12_within a0 a1 a2 = some r) : q_M l yX12_within cX12_within 3 (some .int) 0 0 0 0 base D tc [.int a0, .int a1, .int a2] sz h0 (some (.int r)) sz h0 := by
  refine q_starti (by decide) (Nat.le_of_ble_eq_true rfl) (fun Γ B K => ?_)
  obtain ⟨C, Rm, -⟩ := B
  have C : q_C Γ cX12_within RX12 := C
  show q_V Γ sz 0 0 h0 [(0, .int a0), (1, .int a1), (2, .int a2)] [] 0
  unfold m_X12_within at hm
  refine q_iload_n C (k4 := 0) 0 rfl (by decide +kernel) ?_
  refine q_iload_n C (k4 := 1) 1 rfl (by decide +kernel) ?_
  refine q_icmp_ge C (off := 7) 9 hm (by decide +kernel) (by decide) (fun _ hm => ?_) (fun _ hm => ?_)
  · refine q_iload_n C (k4 := 0) 0 rfl (by decide +kernel) ?_
    refine q_iload_n C (k4 := 2) 2 rfl (by decide +kernel) ?_
    refine q_icmp_le C (off := 7) 18 hm (by decide +kernel) (by decide) (fun _ hm => ?_) (fun _ hm => ?_)
    · refine q_iload_n C (k4 := 0) 0 rfl (by decide +kernel) ?_
      exact q_riP hm K rfl (by decide +kernel)
    · refine q_iload_n C (k4 := 2) 2 rfl (by decide +kernel) ?_
      refine q_goto C (off := 4) 19 (by decide +kernel) (by decide) ?_
      exact q_riP hm K rfl (by decide +kernel)
  · refine q_iload_n C (k4 := 1) 1 rfl (by decide +kernel) ?_
    refine q_goto C (off := 13) 19 (by decide +kernel) (by decide) ?_
    exact q_riP hm K rfl (by decide +kernel)
def m_X12_four_3  : Nat → q_H → Nat → Int32 → Int32 → Option q_H
  | 0, _, _, _, _ => none
  | n + 1, h, x0, x1, x2 =>
    if x2 < 0 then
      some h
    else
      (q_gn h x0 12 0).bind fun v1 =>
      (q_gi h x0 12 1).bind fun v2 =>
      (q_si h v1 0 v2 (vp_nar .byte (((x1 >>> (x2 &&& 31))).toInt8.toInt32))).bind fun h3 =>
      (q_gi h3 x0 12 1).bind fun v4 =>
      (q_pf h3 x0 12 1 (.int ((v4 + (1 : Int32))))).bind fun h5 =>
      m_X12_four_3 n h5 x0 x1 ((x2 + (-8 : Int32)))
set_option maxRecDepth 20000 in
set_option maxHeartbeats 1000000 in
theorem v_X12_four_3 {Γ : q_G} {sz : Nat} {h' : q_H} (C : q_C Γ cX12_four RX12) (Rm : q_Rm Γ 3 0 0 0 0)  (K : q_K Γ cX12_four .return_ sz h' 0 0 [])  : ∀ (n : Nat) (h : q_H) (x0 : Nat) (x1 : Int32) (x2 : Int32), m_X12_four_3 n h x0 x1 x2 = some h' → q_V Γ sz 0 0 h [(0, .ref x0), (1, .int x1), (2, .int x2)] [] 3 := by
  intro n
  induction n with
  | zero => intro h x0 x1 x2 hm; cases hm
  | succ n ih =>
    intro h x0 x1 x2 hm
    unfold m_X12_four_3 at hm
    refine q_iload_n C (k4 := 2) 2 rfl (by decide +kernel) ?_
    refine q_if_lt C (off := 32) 36 hm (by decide +kernel) (by decide) (fun _ hm => ?_) (fun _ hm => ?_)
    · exact q_rvS hm K (by decide +kernel)
    · refine q_aload_n C (k4 := 0) 0 rfl (by decide +kernel) ?_
      refine q_getn C fl_12_7 hm (by decide +kernel) (fun v1 hm => ?_)
      refine q_aload_n C (k4 := 0) 0 rfl (by decide +kernel) ?_
      refine q_geti C fl_12_83 hm (by decide +kernel) (fun v2 hm => ?_)
      refine q_iload_n C (k4 := 1) 1 rfl (by decide +kernel) ?_
      refine q_iload_n C (k4 := 2) 2 rfl (by decide +kernel) ?_
      refine q_ishr C (by decide +kernel) ?_
      refine q_i2b C (by decide +kernel) ?_
      refine q_bw C hm (by decide +kernel) (fun h3 hm => ?_)
      refine q_aload_n C (k4 := 0) 0 rfl (by decide +kernel) ?_
      refine q_dup C rfl (by decide +kernel) ?_
      refine q_geti C fl_12_83 hm (by decide +kernel) (fun v4 hm => ?_)
      refine q_iconst C (n := 1) (v := 1) (by decide) (by decide +kernel) ?_
      refine q_iadd C (by decide +kernel) ?_
      refine q_putf C fl_12_83 hm rfl rfl (by decide +kernel) (fun h5 hm => ?_)
      refine q_iinc C Rm.1 (i := 2) (n := (-8)) (v := (x2 + (-8 : Int32))) 2 rfl (q_inc _ (by decide)) (lv' := [(2, .int ((x2 + (-8 : Int32)))), (0, .ref x0), (1, .int x1)]) rfl (by decide) (by decide +kernel) ?_
      refine q_goto C (off := -30) 3 (by decide +kernel) (by decide) ?_
      refine q_loc [1, 2, 0] rfl ?_
      exact ih _ _ _ _ hm
def m_X12_four (h : q_H) (a0 : Nat) (a1 : Int32) : Option q_H :=
  m_X12_four_3 q_fu h a0 a1 ((24 : Int32))
set_option maxRecDepth 20000 in
set_option maxHeartbeats 1000000 in
theorem c_X12_four (l : Launch) (base : Nat) (D : va_G) (tc : Nat → ClassId) (sz : Nat) (h : q_H) (a0 : Nat) (a1 : Int32) {h' : q_H} (hm : m_X12_four h a0 a1 = some h') : q_M l yX12_four cX12_four 3 none 0 0 0 0 base D tc [.ref a0, .int a1] sz h none sz h' := by
  refine q_startv (by decide) (Nat.le_of_ble_eq_true rfl) (fun Γ B K => ?_)
  obtain ⟨C, Rm, -⟩ := B
  have C : q_C Γ cX12_four RX12 := C
  show q_V Γ sz 0 0 h [(0, .ref a0), (1, .int a1)] [] 0
  unfold m_X12_four at hm
  refine q_bipush C (n := 24) (v := 24) (by decide) (by decide +kernel) ?_
  refine q_istore_n C Rm.1 (k4 := 2) (i := 2) rfl (lv' := [(2, .int ((24 : Int32))), (0, .ref a0), (1, .int a1)]) rfl (by decide) (by decide +kernel) ?_
  refine q_loc [1, 2, 0] rfl ?_
  exact v_X12_four_3 C Rm K _ _ _ _ _ hm
def m_X12_feed (h : q_H) (a0 : Nat) (a1 : Int32) (a2 : Int32) (a3 : Int32) (a4 : Int32) (a5 : Int32) : Option (Int32 × q_H) :=
  (q_gi h a0 12 1).bind fun v1 =>
  if (v1 + (20 : Int32)) ≤ (400 : Int32) then
    (q_ca 12 h a0 (m_X12_four h a0 a1)).bind fun h3 =>
    (q_ca 12 h3 a0 (m_X12_four h3 a0 a2)).bind fun h5 =>
    (q_ca 12 h5 a0 (m_X12_four h5 a0 a3)).bind fun h7 =>
    (q_ca 12 h7 a0 (m_X12_four h7 a0 a4)).bind fun h9 =>
    (q_ca 12 h9 a0 (m_X12_four h9 a0 a5)).bind fun h11 =>
    (q_gi h11 a0 12 1).bind fun v12 =>
    some (v12, h11)
  else
    some ((-1 : Int32), h)
set_option maxRecDepth 20000 in
set_option maxHeartbeats 1000000 in
theorem c_X12_feed (l : Launch) (base : Nat) (D : va_G) (tc : Nat → ClassId) (sz : Nat) (h : q_H) (a0 : Nat) (a1 : Int32) (a2 : Int32) (a3 : Int32) (a4 : Int32) (a5 : Int32) {r : Int32} {h' : q_H} (hm : m_X12_feed h a0 a1 a2 a3 a4 a5 = some (r, h')) : q_M l yX12_feed cX12_feed 6 (some .int) 1 22 0 0 base D tc [.ref a0, .int a1, .int a2, .int a3, .int a4, .int a5] sz h (some (.int r)) sz h' := by
  refine q_starti (by decide) (Nat.le_of_ble_eq_true rfl) (fun Γ B K => ?_)
  obtain ⟨C, Rm, -⟩ := B
  have C : q_C Γ cX12_feed RX12 := C
  show q_V Γ sz 0 0 h [(0, .ref a0), (1, .int a1), (2, .int a2), (3, .int a3), (4, .int a4), (5, .int a5)] [] 0
  unfold m_X12_feed at hm
  refine q_aload_n C (k4 := 0) 0 rfl (by decide +kernel) ?_
  refine q_geti C fl_12_83 hm (by decide +kernel) (fun v1 hm => ?_)
  refine q_bipush C (n := 20) (v := 20) (by decide) (by decide +kernel) ?_
  refine q_iadd C (by decide +kernel) ?_
  refine q_sipush C (n := 400) (v := 400) (by decide) (by decide +kernel) ?_
  refine q_icmp_le C (off := 5) 15 hm (by decide +kernel) (by decide) (fun _ hm => ?_) (fun _ hm => ?_)
  · refine q_aload_n C (k4 := 0) 0 rfl (by decide +kernel) ?_
    refine q_iload_n C (k4 := 1) 1 rfl (by decide +kernel) ?_
    refine q_vvS C Rm (As := [.int a1]) (rest := []) Y_X12_four Yv_X12_four ml_X12_86 (by decide) (by decide) hm (fun h3 e9 => c_X12_four _ _ _ _ _ _ _ _ e9) rfl rfl (Nat.le_of_ble_eq_true rfl) (by decide +kernel) (fun h3 hm => ?_)
    refine q_aload_n C (k4 := 0) 0 rfl (by decide +kernel) ?_
    refine q_iload_n C (k4 := 2) 2 rfl (by decide +kernel) ?_
    refine q_vvS C Rm (As := [.int a2]) (rest := []) Y_X12_four Yv_X12_four ml_X12_86 (by decide) (by decide) hm (fun h5 e9 => c_X12_four _ _ _ _ _ _ _ _ e9) rfl rfl (Nat.le_of_ble_eq_true rfl) (by decide +kernel) (fun h5 hm => ?_)
    refine q_aload_n C (k4 := 0) 0 rfl (by decide +kernel) ?_
    refine q_iload_n C (k4 := 3) 3 rfl (by decide +kernel) ?_
    refine q_vvS C Rm (As := [.int a3]) (rest := []) Y_X12_four Yv_X12_four ml_X12_86 (by decide) (by decide) hm (fun h7 e9 => c_X12_four _ _ _ _ _ _ _ _ e9) rfl rfl (Nat.le_of_ble_eq_true rfl) (by decide +kernel) (fun h7 hm => ?_)
    refine q_aload_n C (k4 := 0) 0 rfl (by decide +kernel) ?_
    refine q_iload C (i := 4) 4 rfl (by decide +kernel) ?_
    refine q_vvS C Rm (As := [.int a4]) (rest := []) Y_X12_four Yv_X12_four ml_X12_86 (by decide) (by decide) hm (fun h9 e9 => c_X12_four _ _ _ _ _ _ _ _ e9) rfl rfl (Nat.le_of_ble_eq_true rfl) (by decide +kernel) (fun h9 hm => ?_)
    refine q_aload_n C (k4 := 0) 0 rfl (by decide +kernel) ?_
    refine q_iload C (i := 5) 5 rfl (by decide +kernel) ?_
    refine q_vvS C Rm (As := [.int a5]) (rest := []) Y_X12_four Yv_X12_four ml_X12_86 (by decide) (by decide) hm (fun h11 e9 => c_X12_four _ _ _ _ _ _ _ _ e9) rfl rfl (Nat.le_of_ble_eq_true rfl) (by decide +kernel) (fun h11 hm => ?_)
    refine q_aload_n C (k4 := 0) 0 rfl (by decide +kernel) ?_
    refine q_geti C fl_12_83 hm (by decide +kernel) (fun v12 hm => ?_)
    exact q_riS hm K rfl (by decide +kernel)
  · refine q_iconst C (n := (-1)) (v := (-1)) (by decide) (by decide +kernel) ?_
    exact q_riS hm K rfl (by decide +kernel)
def m_X12_end (h : q_H) (a0 : Nat) (a1 : Int32) : Option (Int32 × q_H) :=
  if a1 < 0 then
    some ((-1 : Int32), h)
  else
    (q_gi h a0 12 1).bind fun v1 =>
    if a1 ≤ v1 then
      (q_pf h a0 12 1 (.int a1)).bind fun h2 =>
      some (a1, h2)
    else
      some ((-1 : Int32), h)
set_option maxRecDepth 20000 in
set_option maxHeartbeats 1000000 in
theorem c_X12_end (l : Launch) (base : Nat) (D : va_G) (tc : Nat → ClassId) (sz : Nat) (h : q_H) (a0 : Nat) (a1 : Int32) {r : Int32} {h' : q_H} (hm : m_X12_end h a0 a1 = some (r, h')) : q_M l yX12_end cX12_end 2 (some .int) 0 0 0 0 base D tc [.ref a0, .int a1] sz h (some (.int r)) sz h' := by
  refine q_starti (by decide) (Nat.le_of_ble_eq_true rfl) (fun Γ B K => ?_)
  obtain ⟨C, Rm, -⟩ := B
  have C : q_C Γ cX12_end RX12 := C
  show q_V Γ sz 0 0 h [(0, .ref a0), (1, .int a1)] [] 0
  unfold m_X12_end at hm
  refine q_iload_n C (k4 := 1) 1 rfl (by decide +kernel) ?_
  refine q_if_lt C (off := 11) 12 hm (by decide +kernel) (by decide) (fun _ hm => ?_) (fun _ hm => ?_)
  · refine q_iconst C (n := (-1)) (v := (-1)) (by decide) (by decide +kernel) ?_
    exact q_riS hm K rfl (by decide +kernel)
  · refine q_iload_n C (k4 := 1) 1 rfl (by decide +kernel) ?_
    refine q_aload_n C (k4 := 0) 0 rfl (by decide +kernel) ?_
    refine q_geti C fl_12_83 hm (by decide +kernel) (fun v1 hm => ?_)
    refine q_icmp_le C (off := 5) 14 hm (by decide +kernel) (by decide) (fun _ hm => ?_) (fun _ hm => ?_)
    · refine q_aload_n C (k4 := 0) 0 rfl (by decide +kernel) ?_
      refine q_iload_n C (k4 := 1) 1 rfl (by decide +kernel) ?_
      refine q_putf C fl_12_83 hm rfl rfl (by decide +kernel) (fun h2 hm => ?_)
      refine q_iload_n C (k4 := 1) 1 rfl (by decide +kernel) ?_
      exact q_riS hm K rfl (by decide +kernel)
    · refine q_iconst C (n := (-1)) (v := (-1)) (by decide) (by decide +kernel) ?_
      exact q_riS hm K rfl (by decide +kernel)
def m_X12_fails (h : q_H) (a0 : Nat) (a1 : Int32) (a2 : Int32) : Option (Int32 × q_H) :=
  (q_gi h a0 12 9).bind fun v1 =>
  if v1 = 0 then
    (q_pf h a0 12 9 (.int ((((1 : Int32) + ((8 : Int32) * a2)) + a1)))).bind fun h2 =>
    some ((0 : Int32), h2)
  else
    some ((0 : Int32), h)
set_option maxRecDepth 20000 in
set_option maxHeartbeats 1000000 in
theorem c_X12_fails (l : Launch) (base : Nat) (D : va_G) (tc : Nat → ClassId) (sz : Nat) (h : q_H) (a0 : Nat) (a1 : Int32) (a2 : Int32) {r : Int32} {h' : q_H} (hm : m_X12_fails h a0 a1 a2 = some (r, h')) : q_M l yX12_fails cX12_fails 3 (some .boolean) 0 0 0 0 base D tc [.ref a0, .int a1, .int a2] sz h (some (.int r)) sz h' := by
  refine q_starti (by decide) (Nat.le_of_ble_eq_true rfl) (fun Γ B K => ?_)
  obtain ⟨C, Rm, -⟩ := B
  have C : q_C Γ cX12_fails RX12 := C
  show q_V Γ sz 0 0 h [(0, .ref a0), (1, .int a1), (2, .int a2)] [] 0
  unfold m_X12_fails at hm
  refine q_aload_n C (k4 := 0) 0 rfl (by decide +kernel) ?_
  refine q_geti C fl_12_90 hm (by decide +kernel) (fun v1 hm => ?_)
  refine q_if_ne C (off := 15) 19 hm (by decide +kernel) (by decide) (fun _ hm => ?_) (fun _ hm => ?_)
  · refine q_iconst C (n := 0) (v := 0) (by decide) (by decide +kernel) ?_
    exact q_riS hm K q_z0 (by decide +kernel)
  · refine q_aload_n C (k4 := 0) 0 rfl (by decide +kernel) ?_
    refine q_iconst C (n := 1) (v := 1) (by decide) (by decide +kernel) ?_
    refine q_bipush C (n := 8) (v := 8) (by decide) (by decide +kernel) ?_
    refine q_iload_n C (k4 := 2) 2 rfl (by decide +kernel) ?_
    refine q_imul C (by decide +kernel) ?_
    refine q_iadd C (by decide +kernel) ?_
    refine q_iload_n C (k4 := 1) 1 rfl (by decide +kernel) ?_
    refine q_iadd C (by decide +kernel) ?_
    refine q_putf C fl_12_90 hm rfl rfl (by decide +kernel) (fun h2 hm => ?_)
    refine q_iconst C (n := 0) (v := 0) (by decide) (by decide +kernel) ?_
    exact q_riS hm K q_z0 (by decide +kernel)
def m_X12_see_38  (h : q_H) (x0 : Nat) : Option (Int32 × q_H) :=
  (q_gi h x0 12 8).bind fun v8 =>
  (q_gi h x0 12 1).bind fun v9 =>
  if v9 ≤ v8 then
    some ((-1 : Int32), h)
  else
    (q_gn h x0 12 0).bind fun v10 =>
    (q_gi h x0 12 8).bind fun v11 =>
    (q_ai h v10 0 v11).bind fun v12 =>
    some ((v12 &&& (255 : Int32)), h)
set_option maxRecDepth 20000 in
set_option maxHeartbeats 1000000 in
theorem v_X12_see_38 {Γ : q_G} {sz : Nat} {r : Int32} {h' : q_H} (C : q_C Γ cX12_see RX12) (Rm : q_Rm Γ 1 0 0 0 0)  (K : narrow .int (.int r) = .int r → q_K Γ cX12_see .ireturn sz h' 0 0 [.int r])  : ∀ (h : q_H) (x0 : Nat), m_X12_see_38 h x0 = some (r, h') → q_V Γ sz 0 0 h [(0, .ref x0)] [] 38 := by
  intro h x0 hm
  unfold m_X12_see_38 at hm
  refine q_aload_n C (k4 := 0) 0 rfl (by decide +kernel) ?_
  refine q_geti C fl_12_93 hm (by decide +kernel) (fun v8 hm => ?_)
  refine q_aload_n C (k4 := 0) 0 rfl (by decide +kernel) ?_
  refine q_geti C fl_12_83 hm (by decide +kernel) (fun v9 hm => ?_)
  refine q_icmp_ge C (off := 19) 65 hm (by decide +kernel) (by decide) (fun _ hm => ?_) (fun _ hm => ?_)
  · refine q_iconst C (n := (-1)) (v := (-1)) (by decide) (by decide +kernel) ?_
    exact q_riS hm K rfl (by decide +kernel)
  · refine q_aload_n C (k4 := 0) 0 rfl (by decide +kernel) ?_
    refine q_getn C fl_12_7 hm (by decide +kernel) (fun v10 hm => ?_)
    refine q_aload_n C (k4 := 0) 0 rfl (by decide +kernel) ?_
    refine q_geti C fl_12_93 hm (by decide +kernel) (fun v11 hm => ?_)
    refine q_br C hm (by decide +kernel) (fun v12 hm => ?_)
    refine q_sipush C (n := 255) (v := 255) (by decide) (by decide +kernel) ?_
    refine q_iand C (by decide +kernel) ?_
    refine q_goto C (off := 4) 66 (by decide +kernel) (by decide) ?_
    exact q_riS hm K rfl (by decide +kernel)
def m_X12_see_0  : Nat → q_H → Nat → Option (Int32 × q_H)
  | 0, _, _ => none
  | n + 1, h, x0 =>
    (q_gi h x0 12 8).bind fun v1 =>
    (q_gi h x0 12 1).bind fun v2 =>
    if v2 ≤ v1 then
      m_X12_see_38 h x0
    else
      (q_gn h x0 12 0).bind fun v3 =>
      (q_gi h x0 12 8).bind fun v4 =>
      (q_ai h v3 0 v4).bind fun v5 =>
      if v5 = (32 : Int32) then
        (q_gi h x0 12 8).bind fun v6 =>
        (q_pf h x0 12 8 (.int ((v6 + (1 : Int32))))).bind fun h7 =>
        m_X12_see_0 n h7 x0
      else
        m_X12_see_38 h x0
set_option maxRecDepth 20000 in
set_option maxHeartbeats 1000000 in
theorem v_X12_see_0 {Γ : q_G} {sz : Nat} {r : Int32} {h' : q_H} (C : q_C Γ cX12_see RX12) (Rm : q_Rm Γ 1 0 0 0 0)  (K : narrow .int (.int r) = .int r → q_K Γ cX12_see .ireturn sz h' 0 0 [.int r])  : ∀ (n : Nat) (h : q_H) (x0 : Nat), m_X12_see_0 n h x0 = some (r, h') → q_V Γ sz 0 0 h [(0, .ref x0)] [] 0 := by
  intro n
  induction n with
  | zero => intro h x0 hm; cases hm
  | succ n ih =>
    intro h x0 hm
    unfold m_X12_see_0 at hm
    refine q_aload_n C (k4 := 0) 0 rfl (by decide +kernel) ?_
    refine q_geti C fl_12_93 hm (by decide +kernel) (fun v1 hm => ?_)
    refine q_aload_n C (k4 := 0) 0 rfl (by decide +kernel) ?_
    refine q_geti C fl_12_83 hm (by decide +kernel) (fun v2 hm => ?_)
    refine q_icmp_ge C (off := 30) 38 hm (by decide +kernel) (by decide) (fun _ hm => ?_) (fun _ hm => ?_)
    · exact v_X12_see_38 C Rm K _ _ hm
    · refine q_aload_n C (k4 := 0) 0 rfl (by decide +kernel) ?_
      refine q_getn C fl_12_7 hm (by decide +kernel) (fun v3 hm => ?_)
      refine q_aload_n C (k4 := 0) 0 rfl (by decide +kernel) ?_
      refine q_geti C fl_12_93 hm (by decide +kernel) (fun v4 hm => ?_)
      refine q_br C hm (by decide +kernel) (fun v5 hm => ?_)
      refine q_bipush C (n := 32) (v := 32) (by decide) (by decide +kernel) ?_
      refine q_icmp_ne C (off := 16) 38 hm (by decide +kernel) (by decide) (fun _ hm => ?_) (fun _ hm => ?_)
      · exact v_X12_see_38 C Rm K _ _ hm
      · refine q_aload_n C (k4 := 0) 0 rfl (by decide +kernel) ?_
        refine q_dup C rfl (by decide +kernel) ?_
        refine q_geti C fl_12_93 hm (by decide +kernel) (fun v6 hm => ?_)
        refine q_iconst C (n := 1) (v := 1) (by decide) (by decide +kernel) ?_
        refine q_iadd C (by decide +kernel) ?_
        refine q_putf C fl_12_93 hm rfl rfl (by decide +kernel) (fun h7 hm => ?_)
        refine q_goto C (off := -35) 0 (by decide +kernel) (by decide) ?_
        exact ih _ _ hm
def m_X12_see (h : q_H) (a0 : Nat) : Option (Int32 × q_H) :=
  m_X12_see_0 q_fu h a0
set_option maxRecDepth 20000 in
set_option maxHeartbeats 1000000 in
theorem c_X12_see (l : Launch) (base : Nat) (D : va_G) (tc : Nat → ClassId) (sz : Nat) (h : q_H) (a0 : Nat) {r : Int32} {h' : q_H} (hm : m_X12_see h a0 = some (r, h')) : q_M l yX12_see cX12_see 1 (some .int) 0 0 0 0 base D tc [.ref a0] sz h (some (.int r)) sz h' := by
  refine q_starti (by decide) (Nat.le_of_ble_eq_true rfl) (fun Γ B K => ?_)
  obtain ⟨C, Rm, -⟩ := B
  have C : q_C Γ cX12_see RX12 := C
  show q_V Γ sz 0 0 h [(0, .ref a0)] [] 0
  unfold m_X12_see at hm
  exact v_X12_see_0 C Rm K _ _ _ hm
def m_X12_isDigit (h0 : q_H) (a0 : Nat) (a1 : Int32) : Option Int32 :=
  (q_gi h0 a0 12 1).bind fun v1 =>
  if v1 ≤ a1 then
    some ((0 : Int32))
  else
    (q_gn h0 a0 12 0).bind fun v2 =>
    (q_ai h0 v2 0 a1).bind fun v3 =>
    if v3 < (48 : Int32) then
      some ((0 : Int32))
    else
      (q_gn h0 a0 12 0).bind fun v4 =>
      (q_ai h0 v4 0 a1).bind fun v5 =>
      if (57 : Int32) < v5 then
        some ((0 : Int32))
      else
        some ((1 : Int32))
set_option maxRecDepth 20000 in
set_option maxHeartbeats 1000000 in
theorem c_X12_isDigit (l : Launch) (base : Nat) (D : va_G) (tc : Nat → ClassId) (sz : Nat) (h0 : q_H) (a0 : Nat) (a1 : Int32) {r : Int32} (hm : m_X12_isDigit h0 a0 a1 = some r) : q_M l yX12_isDigit cX12_isDigit 2 (some .boolean) 0 0 0 0 base D tc [.ref a0, .int a1] sz h0 (some (.int r)) sz h0 := by
  refine q_starti (by decide) (Nat.le_of_ble_eq_true rfl) (fun Γ B K => ?_)
  obtain ⟨C, Rm, -⟩ := B
  have C : q_C Γ cX12_isDigit RX12 := C
  show q_V Γ sz 0 0 h0 [(0, .ref a0), (1, .int a1)] [] 0
  unfold m_X12_isDigit at hm
  refine q_iload_n C (k4 := 1) 1 rfl (by decide +kernel) ?_
  refine q_aload_n C (k4 := 0) 0 rfl (by decide +kernel) ?_
  refine q_geti C fl_12_83 hm (by decide +kernel) (fun v1 hm => ?_)
  refine q_icmp_ge C (off := 29) 34 hm (by decide +kernel) (by decide) (fun _ hm => ?_) (fun _ hm => ?_)
  · refine q_iconst C (n := 0) (v := 0) (by decide) (by decide +kernel) ?_
    exact q_riP hm K q_z0 (by decide +kernel)
  · refine q_aload_n C (k4 := 0) 0 rfl (by decide +kernel) ?_
    refine q_getn C fl_12_7 hm (by decide +kernel) (fun v2 hm => ?_)
    refine q_iload_n C (k4 := 1) 1 rfl (by decide +kernel) ?_
    refine q_br C hm (by decide +kernel) (fun v3 hm => ?_)
    refine q_bipush C (n := 48) (v := 48) (by decide) (by decide +kernel) ?_
    refine q_icmp_lt C (off := 18) 34 hm (by decide +kernel) (by decide) (fun _ hm => ?_) (fun _ hm => ?_)
    · refine q_iconst C (n := 0) (v := 0) (by decide) (by decide +kernel) ?_
      exact q_riP hm K q_z0 (by decide +kernel)
    · refine q_aload_n C (k4 := 0) 0 rfl (by decide +kernel) ?_
      refine q_getn C fl_12_7 hm (by decide +kernel) (fun v4 hm => ?_)
      refine q_iload_n C (k4 := 1) 1 rfl (by decide +kernel) ?_
      refine q_br C hm (by decide +kernel) (fun v5 hm => ?_)
      refine q_bipush C (n := 57) (v := 57) (by decide) (by decide +kernel) ?_
      refine q_icmp_gt C (off := 7) 34 hm (by decide +kernel) (by decide) (fun _ hm => ?_) (fun _ hm => ?_)
      · refine q_iconst C (n := 0) (v := 0) (by decide) (by decide +kernel) ?_
        exact q_riP hm K q_z0 (by decide +kernel)
      · refine q_iconst C (n := 1) (v := 1) (by decide) (by decide +kernel) ?_
        refine q_goto C (off := 4) 35 (by decide +kernel) (by decide) ?_
        exact q_riP hm K q_z1 (by decide +kernel)
def m_X12_isLetter (h0 : q_H) (a0 : Nat) (a1 : Int32) : Option Int32 :=
  (q_gi h0 a0 12 1).bind fun v1 =>
  if v1 ≤ a1 then
    some ((0 : Int32))
  else
    (q_gn h0 a0 12 0).bind fun v2 =>
    (q_ai h0 v2 0 a1).bind fun v3 =>
    if v3 < (97 : Int32) then
      some ((0 : Int32))
    else
      (q_gn h0 a0 12 0).bind fun v4 =>
      (q_ai h0 v4 0 a1).bind fun v5 =>
      if (122 : Int32) < v5 then
        some ((0 : Int32))
      else
        some ((1 : Int32))
set_option maxRecDepth 20000 in
set_option maxHeartbeats 1000000 in
theorem c_X12_isLetter (l : Launch) (base : Nat) (D : va_G) (tc : Nat → ClassId) (sz : Nat) (h0 : q_H) (a0 : Nat) (a1 : Int32) {r : Int32} (hm : m_X12_isLetter h0 a0 a1 = some r) : q_M l yX12_isLetter cX12_isLetter 2 (some .boolean) 0 0 0 0 base D tc [.ref a0, .int a1] sz h0 (some (.int r)) sz h0 := by
  refine q_starti (by decide) (Nat.le_of_ble_eq_true rfl) (fun Γ B K => ?_)
  obtain ⟨C, Rm, -⟩ := B
  have C : q_C Γ cX12_isLetter RX12 := C
  show q_V Γ sz 0 0 h0 [(0, .ref a0), (1, .int a1)] [] 0
  unfold m_X12_isLetter at hm
  refine q_iload_n C (k4 := 1) 1 rfl (by decide +kernel) ?_
  refine q_aload_n C (k4 := 0) 0 rfl (by decide +kernel) ?_
  refine q_geti C fl_12_83 hm (by decide +kernel) (fun v1 hm => ?_)
  refine q_icmp_ge C (off := 29) 34 hm (by decide +kernel) (by decide) (fun _ hm => ?_) (fun _ hm => ?_)
  · refine q_iconst C (n := 0) (v := 0) (by decide) (by decide +kernel) ?_
    exact q_riP hm K q_z0 (by decide +kernel)
  · refine q_aload_n C (k4 := 0) 0 rfl (by decide +kernel) ?_
    refine q_getn C fl_12_7 hm (by decide +kernel) (fun v2 hm => ?_)
    refine q_iload_n C (k4 := 1) 1 rfl (by decide +kernel) ?_
    refine q_br C hm (by decide +kernel) (fun v3 hm => ?_)
    refine q_bipush C (n := 97) (v := 97) (by decide) (by decide +kernel) ?_
    refine q_icmp_lt C (off := 18) 34 hm (by decide +kernel) (by decide) (fun _ hm => ?_) (fun _ hm => ?_)
    · refine q_iconst C (n := 0) (v := 0) (by decide) (by decide +kernel) ?_
      exact q_riP hm K q_z0 (by decide +kernel)
    · refine q_aload_n C (k4 := 0) 0 rfl (by decide +kernel) ?_
      refine q_getn C fl_12_7 hm (by decide +kernel) (fun v4 hm => ?_)
      refine q_iload_n C (k4 := 1) 1 rfl (by decide +kernel) ?_
      refine q_br C hm (by decide +kernel) (fun v5 hm => ?_)
      refine q_bipush C (n := 122) (v := 122) (by decide) (by decide +kernel) ?_
      refine q_icmp_gt C (off := 7) 34 hm (by decide +kernel) (by decide) (fun _ hm => ?_) (fun _ hm => ?_)
      · refine q_iconst C (n := 0) (v := 0) (by decide) (by decide +kernel) ?_
        exact q_riP hm K q_z0 (by decide +kernel)
      · refine q_iconst C (n := 1) (v := 1) (by decide) (by decide +kernel) ?_
        refine q_goto C (off := 4) 35 (by decide +kernel) (by decide) ?_
        exact q_riP hm K q_z1 (by decide +kernel)
def m_X12_isWord_50 (k10 : q_H → Nat → Int64 → Int64 → Int32 → Option (Int32 × q_H)) (h : q_H) (x0 : Nat) (x1 : Int64) (x3 : Int64) (x5 : Int32) : Option (Int32 × q_H) :=
  k10 h x0 x1 x3 ((x5 + (1 : Int32)))
set_option maxRecDepth 20000 in
set_option maxHeartbeats 1000000 in
theorem v_X12_isWord_50 {Γ : q_G} {sz : Nat} {r : Int32} {h' : q_H} (C : q_C Γ cX12_isWord RX12) (Rm : q_Rm Γ 6 1 21 0 0) {k10 : q_H → Nat → Int64 → Int64 → Int32 → Option (Int32 × q_H)} (K : narrow .boolean (.int r) = .int r → q_K Γ cX12_isWord .ireturn sz h' 0 0 [.int r]) (hk10 : ∀ (h : q_H) (x0 : Nat) (x1 : Int64) (x3 : Int64) (x5 : Int32), k10 h x0 x1 x3 x5 = some (r, h') → q_V Γ sz 0 0 h [(0, .ref x0), (1, .long x1), (3, .long x3), (5, .int x5)] [] 10) : ∀ (h : q_H) (x0 : Nat) (x1 : Int64) (x3 : Int64) (x5 : Int32), m_X12_isWord_50 k10 h x0 x1 x3 x5 = some (r, h') → q_V Γ sz 0 0 h [(0, .ref x0), (1, .long x1), (3, .long x3), (5, .int x5)] [] 50 := by
  intro h x0 x1 x3 x5 hm
  unfold m_X12_isWord_50 at hm
  refine q_iinc C Rm.1 (i := 5) (n := 1) (v := (x5 + (1 : Int32))) 3 rfl (q_inc _ (by decide)) (lv' := [(5, .int ((x5 + (1 : Int32)))), (0, .ref x0), (1, .long x1), (3, .long x3)]) rfl (by decide) (by decide +kernel) ?_
  refine q_goto C (off := -43) 10 (by decide +kernel) (by decide) ?_
  refine q_loc [1, 2, 3, 0] rfl ?_
  exact hk10 _ _ _ _ _ hm
def m_X12_isWord_10  : Nat → q_H → Nat → Int64 → Int64 → Int32 → Option (Int32 × q_H)
  | 0, _, _, _, _, _ => none
  | n + 1, h, x0, x1, x3, x5 =>
    (q_gi h x0 12 8).bind fun v4 =>
    (q_ca 12 h x0 (m_X12_isLetter h x0 ((v4 + x5)))).bind fun r5 =>
    if r5 = 0 then
      if x5 ≤ 0 then
        some ((0 : Int32), h)
      else
        if (8 : Int32) ≤ x5 then
          some ((0 : Int32), h)
        else
          if (lg_cmp x3 x1) = 0 then
            some ((1 : Int32), h)
          else
            some ((0 : Int32), h)
    else
      if (8 : Int32) ≤ x5 then
        m_X12_isWord_50 (m_X12_isWord_10 n) h x0 x1 x3 x5
      else
        (q_gn h x0 12 0).bind fun v7 =>
        (q_gi h x0 12 8).bind fun v8 =>
        (q_ai h v7 0 ((v8 + x5))).bind fun v9 =>
        m_X12_isWord_50 (m_X12_isWord_10 n) h x0 x1 (((x3 <<< (((8 : Int32)).toInt64 &&& 63)) ||| v9.toInt64)) x5
set_option maxRecDepth 20000 in
set_option maxHeartbeats 1000000 in
theorem v_X12_isWord_10 {Γ : q_G} {sz : Nat} {r : Int32} {h' : q_H} (C : q_C Γ cX12_isWord RX12) (Rm : q_Rm Γ 6 1 21 0 0)  (K : narrow .boolean (.int r) = .int r → q_K Γ cX12_isWord .ireturn sz h' 0 0 [.int r])  : ∀ (n : Nat) (h : q_H) (x0 : Nat) (x1 : Int64) (x3 : Int64) (x5 : Int32), m_X12_isWord_10 n h x0 x1 x3 x5 = some (r, h') → q_V Γ sz 0 0 h [(0, .ref x0), (1, .long x1), (3, .long x3), (5, .int x5)] [] 10 := by
  intro n
  induction n with
  | zero => intro h x0 x1 x3 x5 hm; cases hm
  | succ n ih =>
    intro h x0 x1 x3 x5 hm
    unfold m_X12_isWord_10 at hm
    refine q_aload_n C (k4 := 0) 0 rfl (by decide +kernel) ?_
    refine q_aload_n C (k4 := 0) 0 rfl (by decide +kernel) ?_
    refine q_geti C fl_12_93 hm (by decide +kernel) (fun v4 hm => ?_)
    refine q_iload C (i := 5) 3 rfl (by decide +kernel) ?_
    refine q_iadd C (by decide +kernel) ?_
    refine q_viP C Rm (As := [.int ((v4 + x5))]) (rest := []) Y_X12_isLetter Yv_X12_isLetter ml_X12_100 (by decide) (by decide) hm (fun r9 e9 => c_X12_isLetter _ _ _ _ _ _ _ _ e9) rfl rfl (Nat.le_of_ble_eq_true rfl) (by decide +kernel) (fun r5 hm z6 => ?_)
    refine q_if_eq C (off := 35) 56 hm (by decide +kernel) (by decide) (fun _ hm => ?_) (fun _ hm => ?_)
    · refine q_iload C (i := 5) 3 rfl (by decide +kernel) ?_
      refine q_if_le C (off := 20) 78 hm (by decide +kernel) (by decide) (fun _ hm => ?_) (fun _ hm => ?_)
      · refine q_iconst C (n := 0) (v := 0) (by decide) (by decide +kernel) ?_
        exact q_riS hm K q_z0 (by decide +kernel)
      · refine q_iload C (i := 5) 3 rfl (by decide +kernel) ?_
        refine q_bipush C (n := 8) (v := 8) (by decide) (by decide +kernel) ?_
        refine q_icmp_ge C (off := 13) 78 hm (by decide +kernel) (by decide) (fun _ hm => ?_) (fun _ hm => ?_)
        · refine q_iconst C (n := 0) (v := 0) (by decide) (by decide +kernel) ?_
          exact q_riS hm K q_z0 (by decide +kernel)
        · refine q_lload_n C (k4 := 3) 2 rfl (by decide +kernel) ?_
          refine q_lload_n C (k4 := 1) 1 rfl (by decide +kernel) ?_
          refine q_lcmp C (by decide +kernel) ?_
          refine q_if_ne C (off := 7) 78 hm (by decide +kernel) (by decide) (fun _ hm => ?_) (fun _ hm => ?_)
          · refine q_iconst C (n := 0) (v := 0) (by decide) (by decide +kernel) ?_
            exact q_riS hm K q_z0 (by decide +kernel)
          · refine q_iconst C (n := 1) (v := 1) (by decide) (by decide +kernel) ?_
            refine q_goto C (off := 4) 79 (by decide +kernel) (by decide) ?_
            exact q_riS hm K q_z1 (by decide +kernel)
    · refine q_iload C (i := 5) 3 rfl (by decide +kernel) ?_
      refine q_bipush C (n := 8) (v := 8) (by decide) (by decide +kernel) ?_
      refine q_icmp_ge C (off := 22) 50 hm (by decide +kernel) (by decide) (fun _ hm => ?_) (fun _ hm => ?_)
      · exact v_X12_isWord_50 C Rm K ih _ _ _ _ _ hm
      · refine q_lload_n C (k4 := 3) 2 rfl (by decide +kernel) ?_
        refine q_bipush C (n := 8) (v := 8) (by decide) (by decide +kernel) ?_
        refine q_lshl C (by decide +kernel) ?_
        refine q_aload_n C (k4 := 0) 0 rfl (by decide +kernel) ?_
        refine q_getn C fl_12_7 hm (by decide +kernel) (fun v7 hm => ?_)
        refine q_aload_n C (k4 := 0) 0 rfl (by decide +kernel) ?_
        refine q_geti C fl_12_93 hm (by decide +kernel) (fun v8 hm => ?_)
        refine q_iload C (i := 5) 3 rfl (by decide +kernel) ?_
        refine q_iadd C (by decide +kernel) ?_
        refine q_br C hm (by decide +kernel) (fun v9 hm => ?_)
        refine q_i2l C (by decide +kernel) ?_
        refine q_lor C (by decide +kernel) ?_
        refine q_lstore_n C Rm.1 (k4 := 3) (i := 3) rfl (lv' := [(3, .long (((x3 <<< (((8 : Int32)).toInt64 &&& 63)) ||| v9.toInt64))), (0, .ref x0), (1, .long x1), (5, .int x5)]) rfl (by decide) (by decide +kernel) ?_
        refine q_loc [1, 2, 0, 3] rfl ?_
        exact v_X12_isWord_50 C Rm K ih _ _ _ _ _ hm
def m_X12_isWord (h : q_H) (a0 : Nat) (a1 : Int64) : Option (Int32 × q_H) :=
  (q_ca 12 h a0 (m_X12_see h a0)).bind fun (r1, h2) =>
  m_X12_isWord_10 q_fu h2 a0 a1 ((0 : Int64)) ((0 : Int32))
set_option maxRecDepth 20000 in
set_option maxHeartbeats 1000000 in
theorem c_X12_isWord (l : Launch) (base : Nat) (D : va_G) (tc : Nat → ClassId) (sz : Nat) (h : q_H) (a0 : Nat) (a1 : Int64) {r : Int32} {h' : q_H} (hm : m_X12_isWord h a0 a1 = some (r, h')) : q_M l yX12_isWord cX12_isWord 6 (some .boolean) 1 21 0 0 base D tc [.ref a0, .long a1] sz h (some (.int r)) sz h' := by
  refine q_starti (by decide) (Nat.le_of_ble_eq_true rfl) (fun Γ B K => ?_)
  obtain ⟨C, Rm, -⟩ := B
  have C : q_C Γ cX12_isWord RX12 := C
  show q_V Γ sz 0 0 h [(0, .ref a0), (1, .long a1)] [] 0
  unfold m_X12_isWord at hm
  refine q_aload_n C (k4 := 0) 0 rfl (by decide +kernel) ?_
  refine q_viS C Rm (As := []) (rest := []) Y_X12_see Yv_X12_see ml_X12_96 (by decide) (by decide) hm (fun r1 h2 e9 => c_X12_see _ _ _ _ _ _ _ e9) rfl rfl (Nat.le_of_ble_eq_true rfl) (by decide +kernel) (fun r1 h2 hm z3 => ?_)
  refine q_pop C rfl (by decide +kernel) ?_
  refine q_lconst C (n := 0) (v := 0) (by decide) (by decide +kernel) ?_
  refine q_lstore_n C Rm.1 (k4 := 3) (i := 3) rfl (lv' := [(3, .long ((0 : Int64))), (0, .ref a0), (1, .long a1)]) rfl (by decide) (by decide +kernel) ?_
  refine q_iconst C (n := 0) (v := 0) (by decide) (by decide +kernel) ?_
  refine q_istore C Rm.1 (i := 5) (lv' := [(5, .int ((0 : Int32))), (3, .long ((0 : Int64))), (0, .ref a0), (1, .long a1)]) rfl (by decide) (by decide +kernel) ?_
  refine q_loc [2, 3, 1, 0] rfl ?_
  exact v_X12_isWord_10 C Rm K _ _ _ _ _ _ hm
def m_X12_passWord_0  : Nat → q_H → Nat → Option q_H
  | 0, _, _ => none
  | n + 1, h, x0 =>
    (q_gi h x0 12 8).bind fun v1 =>
    (q_ca 12 h x0 (m_X12_isLetter h x0 v1)).bind fun r2 =>
    if r2 = 0 then
      some h
    else
      (q_gi h x0 12 8).bind fun v4 =>
      (q_pf h x0 12 8 (.int ((v4 + (1 : Int32))))).bind fun h5 =>
      m_X12_passWord_0 n h5 x0
set_option maxRecDepth 20000 in
set_option maxHeartbeats 1000000 in
theorem v_X12_passWord_0 {Γ : q_G} {sz : Nat} {h' : q_H} (C : q_C Γ cX12_passWord RX12) (Rm : q_Rm Γ 1 1 21 0 0)  (K : q_K Γ cX12_passWord .return_ sz h' 0 0 [])  : ∀ (n : Nat) (h : q_H) (x0 : Nat), m_X12_passWord_0 n h x0 = some h' → q_V Γ sz 0 0 h [(0, .ref x0)] [] 0 := by
  intro n
  induction n with
  | zero => intro h x0 hm; cases hm
  | succ n ih =>
    intro h x0 hm
    unfold m_X12_passWord_0 at hm
    refine q_aload_n C (k4 := 0) 0 rfl (by decide +kernel) ?_
    refine q_aload_n C (k4 := 0) 0 rfl (by decide +kernel) ?_
    refine q_geti C fl_12_93 hm (by decide +kernel) (fun v1 hm => ?_)
    refine q_viP C Rm (As := [.int v1]) (rest := []) Y_X12_isLetter Yv_X12_isLetter ml_X12_100 (by decide) (by decide) hm (fun r9 e9 => c_X12_isLetter _ _ _ _ _ _ _ _ e9) rfl rfl (Nat.le_of_ble_eq_true rfl) (by decide +kernel) (fun r2 hm z3 => ?_)
    refine q_if_eq C (off := 16) 24 hm (by decide +kernel) (by decide) (fun _ hm => ?_) (fun _ hm => ?_)
    · exact q_rvS hm K (by decide +kernel)
    · refine q_aload_n C (k4 := 0) 0 rfl (by decide +kernel) ?_
      refine q_dup C rfl (by decide +kernel) ?_
      refine q_geti C fl_12_93 hm (by decide +kernel) (fun v4 hm => ?_)
      refine q_iconst C (n := 1) (v := 1) (by decide) (by decide +kernel) ?_
      refine q_iadd C (by decide +kernel) ?_
      refine q_putf C fl_12_93 hm rfl rfl (by decide +kernel) (fun h5 hm => ?_)
      refine q_goto C (off := -21) 0 (by decide +kernel) (by decide) ?_
      exact ih _ _ hm
def m_X12_passWord (h : q_H) (a0 : Nat) : Option q_H :=
  m_X12_passWord_0 q_fu h a0
set_option maxRecDepth 20000 in
set_option maxHeartbeats 1000000 in
theorem c_X12_passWord (l : Launch) (base : Nat) (D : va_G) (tc : Nat → ClassId) (sz : Nat) (h : q_H) (a0 : Nat) {h' : q_H} (hm : m_X12_passWord h a0 = some h') : q_M l yX12_passWord cX12_passWord 1 none 1 21 0 0 base D tc [.ref a0] sz h none sz h' := by
  refine q_startv (by decide) (Nat.le_of_ble_eq_true rfl) (fun Γ B K => ?_)
  obtain ⟨C, Rm, -⟩ := B
  have C : q_C Γ cX12_passWord RX12 := C
  show q_V Γ sz 0 0 h [(0, .ref a0)] [] 0
  unfold m_X12_passWord at hm
  exact v_X12_passWord_0 C Rm K _ _ _ hm
def m_X12_takesWord (h : q_H) (a0 : Nat) (a1 : Int64) : Option (Int32 × q_H) :=
  (q_ca 12 h a0 (m_X12_isWord h a0 a1)).bind fun (r1, h2) =>
  if r1 = 0 then
    some ((0 : Int32), h2)
  else
    (q_ca 12 h2 a0 (m_X12_passWord h2 a0)).bind fun h5 =>
    some ((1 : Int32), h5)
set_option maxRecDepth 20000 in
set_option maxHeartbeats 1000000 in
theorem c_X12_takesWord (l : Launch) (base : Nat) (D : va_G) (tc : Nat → ClassId) (sz : Nat) (h : q_H) (a0 : Nat) (a1 : Int64) {r : Int32} {h' : q_H} (hm : m_X12_takesWord h a0 a1 = some (r, h')) : q_M l yX12_takesWord cX12_takesWord 3 (some .boolean) 2 46 0 0 base D tc [.ref a0, .long a1] sz h (some (.int r)) sz h' := by
  refine q_starti (by decide) (Nat.le_of_ble_eq_true rfl) (fun Γ B K => ?_)
  obtain ⟨C, Rm, -⟩ := B
  have C : q_C Γ cX12_takesWord RX12 := C
  show q_V Γ sz 0 0 h [(0, .ref a0), (1, .long a1)] [] 0
  unfold m_X12_takesWord at hm
  refine q_aload_n C (k4 := 0) 0 rfl (by decide +kernel) ?_
  refine q_lload_n C (k4 := 1) 1 rfl (by decide +kernel) ?_
  refine q_viS C Rm (As := [.long a1]) (rest := []) Y_X12_isWord Yv_X12_isWord ml_X12_104 (by decide) (by decide) hm (fun r1 h2 e9 => c_X12_isWord _ _ _ _ _ _ _ _ e9) rfl rfl (Nat.le_of_ble_eq_true rfl) (by decide +kernel) (fun r1 h2 hm z3 => ?_)
  refine q_if_ne C (off := 5) 10 hm (by decide +kernel) (by decide) (fun _ hm => ?_) (fun _ hm => ?_)
  · refine q_aload_n C (k4 := 0) 0 rfl (by decide +kernel) ?_
    refine q_vvS C Rm (As := []) (rest := []) Y_X12_passWord Yv_X12_passWord ml_X12_108 (by decide) (by decide) hm (fun h5 e9 => c_X12_passWord _ _ _ _ _ _ _ e9) rfl rfl (Nat.le_of_ble_eq_true rfl) (by decide +kernel) (fun h5 hm => ?_)
    refine q_iconst C (n := 1) (v := 1) (by decide) (by decide +kernel) ?_
    exact q_riS hm K q_z1 (by decide +kernel)
  · refine q_iconst C (n := 0) (v := 0) (by decide) (by decide +kernel) ?_
    exact q_riS hm K q_z0 (by decide +kernel)
def m_X12_numberHere_75 (k34 : q_H → Nat → Int32 → Int32 → Int32 → Int32 → Option (Int32 × q_H)) (h : q_H) (x0 : Nat) (x1 : Int32) (x2 : Int32) (x3 : Int32) (x4 : Int32) : Option (Int32 × q_H) :=
  (q_gi h x0 12 8).bind fun v23 =>
  (q_pf h x0 12 8 (.int ((v23 + (1 : Int32))))).bind fun h24 =>
  k34 h24 x0 x1 x2 x3 x4
set_option maxRecDepth 20000 in
set_option maxHeartbeats 1000000 in
theorem v_X12_numberHere_75 {Γ : q_G} {sz : Nat} {r : Int32} {h' : q_H} (C : q_C Γ cX12_numberHere RX12) (Rm : q_Rm Γ 5 1 25 0 0) {k34 : q_H → Nat → Int32 → Int32 → Int32 → Int32 → Option (Int32 × q_H)} (K : narrow .boolean (.int r) = .int r → q_K Γ cX12_numberHere .ireturn sz h' 0 0 [.int r]) (hk34 : ∀ (h : q_H) (x0 : Nat) (x1 : Int32) (x2 : Int32) (x3 : Int32) (x4 : Int32), k34 h x0 x1 x2 x3 x4 = some (r, h') → q_V Γ sz 0 0 h [(0, .ref x0), (1, .int x1), (2, .int x2), (3, .int x3), (4, .int x4)] [] 34) : ∀ (h : q_H) (x0 : Nat) (x1 : Int32) (x2 : Int32) (x3 : Int32) (x4 : Int32), m_X12_numberHere_75 k34 h x0 x1 x2 x3 x4 = some (r, h') → q_V Γ sz 0 0 h [(0, .ref x0), (1, .int x1), (2, .int x2), (3, .int x3), (4, .int x4)] [] 75 := by
  intro h x0 x1 x2 x3 x4 hm
  unfold m_X12_numberHere_75 at hm
  refine q_aload_n C (k4 := 0) 0 rfl (by decide +kernel) ?_
  refine q_dup C rfl (by decide +kernel) ?_
  refine q_geti C fl_12_93 hm (by decide +kernel) (fun v23 hm => ?_)
  refine q_iconst C (n := 1) (v := 1) (by decide) (by decide +kernel) ?_
  refine q_iadd C (by decide +kernel) ?_
  refine q_putf C fl_12_93 hm rfl rfl (by decide +kernel) (fun h24 hm => ?_)
  refine q_goto C (off := -51) 34 (by decide +kernel) (by decide) ?_
  exact hk34 _ _ _ _ _ _ hm
def m_X12_numberHere_117  (h : q_H) (x0 : Nat) (x3 : Int32) : Option (Int32 × q_H) :=
  (q_ca 12 h x0 (m_X12_fails h x0 ((1 : Int32)) x3)).bind fun (r25, h26) =>
  if r25 = 0 then
    some ((0 : Int32), h26)
  else
    some ((1 : Int32), h26)
set_option maxRecDepth 20000 in
set_option maxHeartbeats 1000000 in
theorem v_X12_numberHere_117 {Γ : q_G} {sz : Nat} {r : Int32} {h' : q_H} (C : q_C Γ cX12_numberHere RX12) (Rm : q_Rm Γ 5 1 25 0 0)  (K : narrow .boolean (.int r) = .int r → q_K Γ cX12_numberHere .ireturn sz h' 0 0 [.int r])  : ∀ (h : q_H) (x0 : Nat) (x3 : Int32), m_X12_numberHere_117 h x0 x3 = some (r, h') → q_V Γ sz 0 0 h [(0, .ref x0), (3, .int x3)] [] 117 := by
  intro h x0 x3 hm
  unfold m_X12_numberHere_117 at hm
  refine q_aload_n C (k4 := 0) 0 rfl (by decide +kernel) ?_
  refine q_iconst C (n := 1) (v := 1) (by decide) (by decide +kernel) ?_
  refine q_iload_n C (k4 := 3) 1 rfl (by decide +kernel) ?_
  refine q_viS C Rm (As := [.int ((1 : Int32)), .int x3]) (rest := []) Y_X12_fails Yv_X12_fails ml_X12_114 (by decide) (by decide) hm (fun r25 h26 e9 => c_X12_fails _ _ _ _ _ _ _ _ _ e9) rfl rfl (Nat.le_of_ble_eq_true rfl) (by decide +kernel) (fun r25 h26 hm z27 => ?_)
  refine q_if_eq C (off := 7) 130 hm (by decide +kernel) (by decide) (fun _ hm => ?_) (fun _ hm => ?_)
  · refine q_iconst C (n := 0) (v := 0) (by decide) (by decide +kernel) ?_
    exact q_riS hm K q_z0 (by decide +kernel)
  · refine q_iconst C (n := 1) (v := 1) (by decide) (by decide +kernel) ?_
    refine q_goto C (off := 4) 131 (by decide +kernel) (by decide) ?_
    exact q_riS hm K q_z1 (by decide +kernel)
def m_X12_numberHere_34  : Nat → q_H → Nat → Int32 → Int32 → Int32 → Int32 → Option (Int32 × q_H)
  | 0, _, _, _, _, _, _ => none
  | n + 1, h, x0, x1, x2, x3, x4 =>
    (q_gi h x0 12 8).bind fun v12 =>
    (q_ca 12 h x0 (m_X12_isDigit h x0 v12)).bind fun r13 =>
    if r13 = 0 then
      (q_pf h x0 12 10 (.int x4)).bind fun h15 =>
      (q_gi h15 x0 12 8).bind fun v16 =>
      if (5 : Int32) < (v16 - x3) then
        m_X12_numberHere_117 h15 x0 x3
      else
        (m_X12_in x4.toInt64 x1.toInt64 x2.toInt64).bind fun r17 =>
        if r17 = 0 then
          m_X12_numberHere_117 h15 x0 x3
        else
          some ((1 : Int32), h15)
    else
      (q_gi h x0 12 8).bind fun v19 =>
      if (5 : Int32) ≤ (v19 - x3) then
        m_X12_numberHere_75 (m_X12_numberHere_34 n) h x0 x1 x2 x3 x4
      else
        (q_gn h x0 12 0).bind fun v20 =>
        (q_gi h x0 12 8).bind fun v21 =>
        (q_ai h v20 0 v21).bind fun v22 =>
        m_X12_numberHere_75 (m_X12_numberHere_34 n) h x0 x1 x2 x3 (((((10 : Int32) * x4) + v22) - (48 : Int32)))
set_option maxRecDepth 20000 in
set_option maxHeartbeats 1000000 in
theorem v_X12_numberHere_34 {Γ : q_G} {sz : Nat} {r : Int32} {h' : q_H} (C : q_C Γ cX12_numberHere RX12) (Rm : q_Rm Γ 5 1 25 0 0)  (K : narrow .boolean (.int r) = .int r → q_K Γ cX12_numberHere .ireturn sz h' 0 0 [.int r])  : ∀ (n : Nat) (h : q_H) (x0 : Nat) (x1 : Int32) (x2 : Int32) (x3 : Int32) (x4 : Int32), m_X12_numberHere_34 n h x0 x1 x2 x3 x4 = some (r, h') → q_V Γ sz 0 0 h [(0, .ref x0), (1, .int x1), (2, .int x2), (3, .int x3), (4, .int x4)] [] 34 := by
  intro n
  induction n with
  | zero => intro h x0 x1 x2 x3 x4 hm; cases hm
  | succ n ih =>
    intro h x0 x1 x2 x3 x4 hm
    unfold m_X12_numberHere_34 at hm
    refine q_aload_n C (k4 := 0) 0 rfl (by decide +kernel) ?_
    refine q_aload_n C (k4 := 0) 0 rfl (by decide +kernel) ?_
    refine q_geti C fl_12_93 hm (by decide +kernel) (fun v12 hm => ?_)
    refine q_viP C Rm (As := [.int v12]) (rest := []) Y_X12_isDigit Yv_X12_isDigit ml_X12_111 (by decide) (by decide) hm (fun r9 e9 => c_X12_isDigit _ _ _ _ _ _ _ _ e9) rfl rfl (Nat.le_of_ble_eq_true rfl) (by decide +kernel) (fun r13 hm z14 => ?_)
    refine q_if_eq C (off := 46) 88 hm (by decide +kernel) (by decide) (fun _ hm => ?_) (fun _ hm => ?_)
    · refine q_aload_n C (k4 := 0) 0 rfl (by decide +kernel) ?_
      refine q_iload C (i := 4) 4 rfl (by decide +kernel) ?_
      refine q_putf C fl_12_118 hm rfl rfl (by decide +kernel) (fun h15 hm => ?_)
      refine q_aload_n C (k4 := 0) 0 rfl (by decide +kernel) ?_
      refine q_geti C fl_12_93 hm (by decide +kernel) (fun v16 hm => ?_)
      refine q_iload_n C (k4 := 3) 3 rfl (by decide +kernel) ?_
      refine q_isub C (by decide +kernel) ?_
      refine q_iconst C (n := 5) (v := 5) (by decide) (by decide +kernel) ?_
      refine q_icmp_gt C (off := 16) 117 hm (by decide +kernel) (by decide) (fun _ hm => ?_) (fun _ hm => ?_)
      · refine q_loc [0, 3] rfl ?_
        exact v_X12_numberHere_117 C Rm K _ _ _ hm
      · refine q_iload C (i := 4) 4 rfl (by decide +kernel) ?_
        refine q_i2l C (by decide +kernel) ?_
        refine q_iload_n C (k4 := 1) 1 rfl (by decide +kernel) ?_
        refine q_i2l C (by decide +kernel) ?_
        refine q_iload_n C (k4 := 2) 2 rfl (by decide +kernel) ?_
        refine q_i2l C (by decide +kernel) ?_
        refine q_siP C Rm (As := [.long x4.toInt64, .long x1.toInt64, .long x2.toInt64]) (rest := []) Y_X12_in Ys_X12_in ml_X12_121 (by decide) (by decide) hm (fun r9 e9 => c_X12_in _ _ _ _ _ _ _ _ _ e9) rfl rfl (Nat.le_of_ble_eq_true rfl) (by decide +kernel) (fun r17 hm z18 => ?_)
        refine q_if_ne C (off := 12) 126 hm (by decide +kernel) (by decide) (fun _ hm => ?_) (fun _ hm => ?_)
        · refine q_iconst C (n := 1) (v := 1) (by decide) (by decide +kernel) ?_
          refine q_goto C (off := 4) 131 (by decide +kernel) (by decide) ?_
          exact q_riS hm K q_z1 (by decide +kernel)
        · refine q_loc [0, 3] rfl ?_
          exact v_X12_numberHere_117 C Rm K _ _ _ hm
    · refine q_aload_n C (k4 := 0) 0 rfl (by decide +kernel) ?_
      refine q_geti C fl_12_93 hm (by decide +kernel) (fun v19 hm => ?_)
      refine q_iload_n C (k4 := 3) 3 rfl (by decide +kernel) ?_
      refine q_isub C (by decide +kernel) ?_
      refine q_iconst C (n := 5) (v := 5) (by decide) (by decide +kernel) ?_
      refine q_icmp_ge C (off := 23) 75 hm (by decide +kernel) (by decide) (fun _ hm => ?_) (fun _ hm => ?_)
      · exact v_X12_numberHere_75 C Rm K ih _ _ _ _ _ _ hm
      · refine q_bipush C (n := 10) (v := 10) (by decide) (by decide +kernel) ?_
        refine q_iload C (i := 4) 4 rfl (by decide +kernel) ?_
        refine q_imul C (by decide +kernel) ?_
        refine q_aload_n C (k4 := 0) 0 rfl (by decide +kernel) ?_
        refine q_getn C fl_12_7 hm (by decide +kernel) (fun v20 hm => ?_)
        refine q_aload_n C (k4 := 0) 0 rfl (by decide +kernel) ?_
        refine q_geti C fl_12_93 hm (by decide +kernel) (fun v21 hm => ?_)
        refine q_br C hm (by decide +kernel) (fun v22 hm => ?_)
        refine q_iadd C (by decide +kernel) ?_
        refine q_bipush C (n := 48) (v := 48) (by decide) (by decide +kernel) ?_
        refine q_isub C (by decide +kernel) ?_
        refine q_istore C Rm.1 (i := 4) (lv' := [(4, .int (((((10 : Int32) * x4) + v22) - (48 : Int32)))), (0, .ref x0), (1, .int x1), (2, .int x2), (3, .int x3)]) rfl (by decide) (by decide +kernel) ?_
        refine q_loc [1, 2, 3, 4, 0] rfl ?_
        exact v_X12_numberHere_75 C Rm K ih _ _ _ _ _ _ hm
def m_X12_numberHere (h : q_H) (a0 : Nat) (a1 : Int32) (a2 : Int32) : Option (Int32 × q_H) :=
  (q_ca 12 h a0 (m_X12_see h a0)).bind fun (r1, h2) =>
  (q_gi h2 a0 12 8).bind fun v4 =>
  (q_ca 12 h2 a0 (m_X12_isDigit h2 a0 v4)).bind fun r5 =>
  if r5 = 0 then
    (q_gi h2 a0 12 8).bind fun v8 =>
    (q_ca 12 h2 a0 (m_X12_fails h2 a0 ((0 : Int32)) v8)).bind fun (r9, h10) =>
    some (r9, h10)
  else
    (q_gi h2 a0 12 8).bind fun v7 =>
    m_X12_numberHere_34 q_fu h2 a0 a1 a2 v7 ((0 : Int32))
set_option maxRecDepth 20000 in
set_option maxHeartbeats 1000000 in
theorem c_X12_numberHere (l : Launch) (base : Nat) (D : va_G) (tc : Nat → ClassId) (sz : Nat) (h : q_H) (a0 : Nat) (a1 : Int32) (a2 : Int32) {r : Int32} {h' : q_H} (hm : m_X12_numberHere h a0 a1 a2 = some (r, h')) : q_M l yX12_numberHere cX12_numberHere 5 (some .boolean) 1 25 0 0 base D tc [.ref a0, .int a1, .int a2] sz h (some (.int r)) sz h' := by
  refine q_starti (by decide) (Nat.le_of_ble_eq_true rfl) (fun Γ B K => ?_)
  obtain ⟨C, Rm, -⟩ := B
  have C : q_C Γ cX12_numberHere RX12 := C
  show q_V Γ sz 0 0 h [(0, .ref a0), (1, .int a1), (2, .int a2)] [] 0
  unfold m_X12_numberHere at hm
  refine q_aload_n C (k4 := 0) 0 rfl (by decide +kernel) ?_
  refine q_viS C Rm (As := []) (rest := []) Y_X12_see Yv_X12_see ml_X12_96 (by decide) (by decide) hm (fun r1 h2 e9 => c_X12_see _ _ _ _ _ _ _ e9) rfl rfl (Nat.le_of_ble_eq_true rfl) (by decide +kernel) (fun r1 h2 hm z3 => ?_)
  refine q_pop C rfl (by decide +kernel) ?_
  refine q_aload_n C (k4 := 0) 0 rfl (by decide +kernel) ?_
  refine q_aload_n C (k4 := 0) 0 rfl (by decide +kernel) ?_
  refine q_geti C fl_12_93 hm (by decide +kernel) (fun v4 hm => ?_)
  refine q_viP C Rm (As := [.int v4]) (rest := []) Y_X12_isDigit Yv_X12_isDigit ml_X12_111 (by decide) (by decide) hm (fun r9 e9 => c_X12_isDigit _ _ _ _ _ _ _ _ e9) rfl rfl (Nat.le_of_ble_eq_true rfl) (by decide +kernel) (fun r5 hm z6 => ?_)
  refine q_if_ne C (off := 13) 26 hm (by decide +kernel) (by decide) (fun _ hm => ?_) (fun _ hm => ?_)
  · refine q_aload_n C (k4 := 0) 0 rfl (by decide +kernel) ?_
    refine q_geti C fl_12_93 hm (by decide +kernel) (fun v7 hm => ?_)
    refine q_istore_n C Rm.1 (k4 := 3) (i := 3) rfl (lv' := [(3, .int v7), (0, .ref a0), (1, .int a1), (2, .int a2)]) rfl (by decide) (by decide +kernel) ?_
    refine q_iconst C (n := 0) (v := 0) (by decide) (by decide +kernel) ?_
    refine q_istore C Rm.1 (i := 4) (lv' := [(4, .int ((0 : Int32))), (3, .int v7), (0, .ref a0), (1, .int a1), (2, .int a2)]) rfl (by decide) (by decide +kernel) ?_
    refine q_loc [2, 3, 4, 1, 0] rfl ?_
    exact v_X12_numberHere_34 C Rm K _ _ _ _ _ _ _ hm
  · refine q_aload_n C (k4 := 0) 0 rfl (by decide +kernel) ?_
    refine q_iconst C (n := 0) (v := 0) (by decide) (by decide +kernel) ?_
    refine q_aload_n C (k4 := 0) 0 rfl (by decide +kernel) ?_
    refine q_geti C fl_12_93 hm (by decide +kernel) (fun v8 hm => ?_)
    refine q_viS C Rm (As := [.int ((0 : Int32)), .int v8]) (rest := []) Y_X12_fails Yv_X12_fails ml_X12_114 (by decide) (by decide) hm (fun r9 h10 e9 => c_X12_fails _ _ _ _ _ _ _ _ _ e9) rfl rfl (Nat.le_of_ble_eq_true rfl) (by decide +kernel) (fun r9 h10 hm z11 => ?_)
    exact q_riS hm K z11 (by decide +kernel)
def m_X12_wordHere (h : q_H) (a0 : Nat) : Option (Int32 × q_H) :=
  (q_ca 12 h a0 (m_X12_isWord h a0 ((123649632527730 : Int64)))).bind fun (r1, h2) =>
  if r1 = 0 then
    (q_ca 12 h2 a0 (m_X12_isWord h2 a0 ((1936286821 : Int64)))).bind fun (r4, h5) =>
    if r4 = 0 then
      (q_ca 12 h5 a0 (m_X12_isWord h5 a0 ((126943973305959 : Int64)))).bind fun (r7, h8) =>
      if r7 = 0 then
        (q_ca 12 h8 a0 (m_X12_isWord h8 a0 ((2003398244 : Int64)))).bind fun (r10, h11) =>
        if r10 = 0 then
          (q_ca 12 h11 a0 (m_X12_isWord h11 a0 ((422776370291 : Int64)))).bind fun (r13, h14) =>
          if r13 = 0 then
            (q_ca 12 h14 a0 (m_X12_isWord h14 a0 ((482854658917 : Int64)))).bind fun (r16, h17) =>
            if r16 = 0 then
              (q_ca 12 h17 a0 (m_X12_isWord h17 a0 ((469786453363 : Int64)))).bind fun (r19, h20) =>
              if r19 = 0 then
                (q_ca 12 h20 a0 (m_X12_isWord h20 a0 ((125796947750766 : Int64)))).bind fun (r22, h23) =>
                if r22 = 0 then
                  (q_ca 12 h23 a0 (m_X12_isWord h23 a0 ((1818848869 : Int64)))).bind fun (r25, h26) =>
                  if r25 = 0 then
                    (q_ca 12 h26 a0 (m_X12_isWord h26 a0 ((131320544716132 : Int64)))).bind fun (r28, h29) =>
                    if r28 = 0 then
                      (q_ca 12 h29 a0 (m_X12_isWord h29 a0 ((448377484901 : Int64)))).bind fun (r31, h32) =>
                      if r31 = 0 then
                        some ((-1 : Int32), h32)
                      else
                        some ((10 : Int32), h32)
                    else
                      some ((9 : Int32), h29)
                  else
                    some ((8 : Int32), h26)
                else
                  some ((7 : Int32), h23)
              else
                some ((6 : Int32), h20)
            else
              some ((5 : Int32), h17)
          else
            some ((4 : Int32), h14)
        else
          some ((3 : Int32), h11)
      else
        some ((2 : Int32), h8)
    else
      some ((1 : Int32), h5)
  else
    some ((0 : Int32), h2)
set_option maxRecDepth 20000 in
set_option maxHeartbeats 1000000 in
theorem c_X12_wordHere (l : Launch) (base : Nat) (D : va_G) (tc : Nat → ClassId) (sz : Nat) (h : q_H) (a0 : Nat) {r : Int32} {h' : q_H} (hm : m_X12_wordHere h a0 = some (r, h')) : q_M l yX12_wordHere cX12_wordHere 1 (some .int) 2 46 0 0 base D tc [.ref a0] sz h (some (.int r)) sz h' := by
  refine q_starti (by decide) (Nat.le_of_ble_eq_true rfl) (fun Γ B K => ?_)
  obtain ⟨C, Rm, -⟩ := B
  have C : q_C Γ cX12_wordHere RX12 := C
  show q_V Γ sz 0 0 h [(0, .ref a0)] [] 0
  unfold m_X12_wordHere at hm
  refine q_aload_n C (k4 := 0) 0 rfl (by decide +kernel) ?_
  refine q_ldc2 C (idx := 125) (v := 123649632527730) (q_m6 45 rfl rfl) (by decide +kernel) ?_
  refine q_viS C Rm (As := [.long ((123649632527730 : Int64))]) (rest := []) Y_X12_isWord Yv_X12_isWord ml_X12_104 (by decide) (by decide) hm (fun r1 h2 e9 => c_X12_isWord _ _ _ _ _ _ _ _ e9) rfl rfl (Nat.le_of_ble_eq_true rfl) (by decide +kernel) (fun r1 h2 hm z3 => ?_)
  refine q_if_eq C (off := 5) 12 hm (by decide +kernel) (by decide) (fun _ hm => ?_) (fun _ hm => ?_)
  · refine q_aload_n C (k4 := 0) 0 rfl (by decide +kernel) ?_
    refine q_ldc2 C (idx := 127) (v := 1936286821) (q_m6 116 rfl rfl) (by decide +kernel) ?_
    refine q_viS C Rm (As := [.long ((1936286821 : Int64))]) (rest := []) Y_X12_isWord Yv_X12_isWord ml_X12_104 (by decide) (by decide) hm (fun r4 h5 e9 => c_X12_isWord _ _ _ _ _ _ _ _ e9) rfl rfl (Nat.le_of_ble_eq_true rfl) (by decide +kernel) (fun r4 h5 hm z6 => ?_)
    refine q_if_eq C (off := 5) 24 hm (by decide +kernel) (by decide) (fun _ hm => ?_) (fun _ hm => ?_)
    · refine q_aload_n C (k4 := 0) 0 rfl (by decide +kernel) ?_
      refine q_ldc2 C (idx := 129) (v := 126943973305959) (q_m6 117 rfl rfl) (by decide +kernel) ?_
      refine q_viS C Rm (As := [.long ((126943973305959 : Int64))]) (rest := []) Y_X12_isWord Yv_X12_isWord ml_X12_104 (by decide) (by decide) hm (fun r7 h8 e9 => c_X12_isWord _ _ _ _ _ _ _ _ e9) rfl rfl (Nat.le_of_ble_eq_true rfl) (by decide +kernel) (fun r7 h8 hm z9 => ?_)
      refine q_if_eq C (off := 5) 36 hm (by decide +kernel) (by decide) (fun _ hm => ?_) (fun _ hm => ?_)
      · refine q_aload_n C (k4 := 0) 0 rfl (by decide +kernel) ?_
        refine q_ldc2 C (idx := 131) (v := 2003398244) (q_m6 118 rfl rfl) (by decide +kernel) ?_
        refine q_viS C Rm (As := [.long ((2003398244 : Int64))]) (rest := []) Y_X12_isWord Yv_X12_isWord ml_X12_104 (by decide) (by decide) hm (fun r10 h11 e9 => c_X12_isWord _ _ _ _ _ _ _ _ e9) rfl rfl (Nat.le_of_ble_eq_true rfl) (by decide +kernel) (fun r10 h11 hm z12 => ?_)
        refine q_if_eq C (off := 5) 48 hm (by decide +kernel) (by decide) (fun _ hm => ?_) (fun _ hm => ?_)
        · refine q_aload_n C (k4 := 0) 0 rfl (by decide +kernel) ?_
          refine q_ldc2 C (idx := 133) (v := 422776370291) (q_m6 119 rfl rfl) (by decide +kernel) ?_
          refine q_viS C Rm (As := [.long ((422776370291 : Int64))]) (rest := []) Y_X12_isWord Yv_X12_isWord ml_X12_104 (by decide) (by decide) hm (fun r13 h14 e9 => c_X12_isWord _ _ _ _ _ _ _ _ e9) rfl rfl (Nat.le_of_ble_eq_true rfl) (by decide +kernel) (fun r13 h14 hm z15 => ?_)
          refine q_if_eq C (off := 5) 60 hm (by decide +kernel) (by decide) (fun _ hm => ?_) (fun _ hm => ?_)
          · refine q_aload_n C (k4 := 0) 0 rfl (by decide +kernel) ?_
            refine q_ldc2 C (idx := 135) (v := 482854658917) (q_m6 120 rfl rfl) (by decide +kernel) ?_
            refine q_viS C Rm (As := [.long ((482854658917 : Int64))]) (rest := []) Y_X12_isWord Yv_X12_isWord ml_X12_104 (by decide) (by decide) hm (fun r16 h17 e9 => c_X12_isWord _ _ _ _ _ _ _ _ e9) rfl rfl (Nat.le_of_ble_eq_true rfl) (by decide +kernel) (fun r16 h17 hm z18 => ?_)
            refine q_if_eq C (off := 5) 72 hm (by decide +kernel) (by decide) (fun _ hm => ?_) (fun _ hm => ?_)
            · refine q_aload_n C (k4 := 0) 0 rfl (by decide +kernel) ?_
              refine q_ldc2 C (idx := 137) (v := 469786453363) (q_m6 121 rfl rfl) (by decide +kernel) ?_
              refine q_viS C Rm (As := [.long ((469786453363 : Int64))]) (rest := []) Y_X12_isWord Yv_X12_isWord ml_X12_104 (by decide) (by decide) hm (fun r19 h20 e9 => c_X12_isWord _ _ _ _ _ _ _ _ e9) rfl rfl (Nat.le_of_ble_eq_true rfl) (by decide +kernel) (fun r19 h20 hm z21 => ?_)
              refine q_if_eq C (off := 6) 85 hm (by decide +kernel) (by decide) (fun _ hm => ?_) (fun _ hm => ?_)
              · refine q_aload_n C (k4 := 0) 0 rfl (by decide +kernel) ?_
                refine q_ldc2 C (idx := 139) (v := 125796947750766) (q_m6 46 rfl rfl) (by decide +kernel) ?_
                refine q_viS C Rm (As := [.long ((125796947750766 : Int64))]) (rest := []) Y_X12_isWord Yv_X12_isWord ml_X12_104 (by decide) (by decide) hm (fun r22 h23 e9 => c_X12_isWord _ _ _ _ _ _ _ _ e9) rfl rfl (Nat.le_of_ble_eq_true rfl) (by decide +kernel) (fun r22 h23 hm z24 => ?_)
                refine q_if_eq C (off := 6) 98 hm (by decide +kernel) (by decide) (fun _ hm => ?_) (fun _ hm => ?_)
                · refine q_aload_n C (k4 := 0) 0 rfl (by decide +kernel) ?_
                  refine q_ldc2 C (idx := 141) (v := 1818848869) (q_m6 122 rfl rfl) (by decide +kernel) ?_
                  refine q_viS C Rm (As := [.long ((1818848869 : Int64))]) (rest := []) Y_X12_isWord Yv_X12_isWord ml_X12_104 (by decide) (by decide) hm (fun r25 h26 e9 => c_X12_isWord _ _ _ _ _ _ _ _ e9) rfl rfl (Nat.le_of_ble_eq_true rfl) (by decide +kernel) (fun r25 h26 hm z27 => ?_)
                  refine q_if_eq C (off := 6) 111 hm (by decide +kernel) (by decide) (fun _ hm => ?_) (fun _ hm => ?_)
                  · refine q_aload_n C (k4 := 0) 0 rfl (by decide +kernel) ?_
                    refine q_ldc2 C (idx := 143) (v := 131320544716132) (q_m6 123 rfl rfl) (by decide +kernel) ?_
                    refine q_viS C Rm (As := [.long ((131320544716132 : Int64))]) (rest := []) Y_X12_isWord Yv_X12_isWord ml_X12_104 (by decide) (by decide) hm (fun r28 h29 e9 => c_X12_isWord _ _ _ _ _ _ _ _ e9) rfl rfl (Nat.le_of_ble_eq_true rfl) (by decide +kernel) (fun r28 h29 hm z30 => ?_)
                    refine q_if_eq C (off := 8) 126 hm (by decide +kernel) (by decide) (fun _ hm => ?_) (fun _ hm => ?_)
                    · refine q_aload_n C (k4 := 0) 0 rfl (by decide +kernel) ?_
                      refine q_ldc2 C (idx := 145) (v := 448377484901) (q_m6 124 rfl rfl) (by decide +kernel) ?_
                      refine q_viS C Rm (As := [.long ((448377484901 : Int64))]) (rest := []) Y_X12_isWord Yv_X12_isWord ml_X12_104 (by decide) (by decide) hm (fun r31 h32 e9 => c_X12_isWord _ _ _ _ _ _ _ _ e9) rfl rfl (Nat.le_of_ble_eq_true rfl) (by decide +kernel) (fun r31 h32 hm z33 => ?_)
                      refine q_if_eq C (off := 8) 141 hm (by decide +kernel) (by decide) (fun _ hm => ?_) (fun _ hm => ?_)
                      · refine q_iconst C (n := (-1)) (v := (-1)) (by decide) (by decide +kernel) ?_
                        exact q_riS hm K rfl (by decide +kernel)
                      · refine q_bipush C (n := 10) (v := 10) (by decide) (by decide +kernel) ?_
                        refine q_goto C (off := 4) 142 (by decide +kernel) (by decide) ?_
                        exact q_riS hm K rfl (by decide +kernel)
                    · refine q_bipush C (n := 9) (v := 9) (by decide) (by decide +kernel) ?_
                      refine q_goto C (off := 19) 142 (by decide +kernel) (by decide) ?_
                      exact q_riS hm K rfl (by decide +kernel)
                  · refine q_bipush C (n := 8) (v := 8) (by decide) (by decide +kernel) ?_
                    exact q_riS hm K rfl (by decide +kernel)
                · refine q_bipush C (n := 7) (v := 7) (by decide) (by decide +kernel) ?_
                  exact q_riS hm K rfl (by decide +kernel)
              · refine q_bipush C (n := 6) (v := 6) (by decide) (by decide +kernel) ?_
                exact q_riS hm K rfl (by decide +kernel)
            · refine q_iconst C (n := 5) (v := 5) (by decide) (by decide +kernel) ?_
              exact q_riS hm K rfl (by decide +kernel)
          · refine q_iconst C (n := 4) (v := 4) (by decide) (by decide +kernel) ?_
            exact q_riS hm K rfl (by decide +kernel)
        · refine q_iconst C (n := 3) (v := 3) (by decide) (by decide +kernel) ?_
          exact q_riS hm K rfl (by decide +kernel)
      · refine q_iconst C (n := 2) (v := 2) (by decide) (by decide +kernel) ?_
        exact q_riS hm K rfl (by decide +kernel)
    · refine q_iconst C (n := 1) (v := 1) (by decide) (by decide +kernel) ?_
      exact q_riS hm K rfl (by decide +kernel)
  · refine q_iconst C (n := 0) (v := 0) (by decide) (by decide +kernel) ?_
    exact q_riS hm K rfl (by decide +kernel)
def m_X12_puts (h : q_H) (a0 : Nat) (a1 : Int32) (a2 : Int32) : Option q_H :=
  (q_gn h a0 12 3).bind fun v1 =>
  (q_gi h a0 12 11).bind fun v2 =>
  (q_gn h a0 12 4).bind fun v3 =>
  (q_gi h a0 12 11).bind fun v4 =>
  (q_ai h v3 1 v4).bind fun v5 =>
  (q_si h v1 1 ((((400 : Int32) * v2) + v5)) ((a1 + ((16 : Int32) * a2)))).bind fun h6 =>
  (q_gn h6 a0 12 4).bind fun v7 =>
  (q_gi h6 a0 12 11).bind fun v8 =>
  (q_ai h6 v7 1 v8).bind fun v9 =>
  (q_si h6 v7 1 v8 ((v9 + (1 : Int32)))).bind fun h10 =>
  some h10
set_option maxRecDepth 20000 in
set_option maxHeartbeats 1000000 in
theorem c_X12_puts (l : Launch) (base : Nat) (D : va_G) (tc : Nat → ClassId) (sz : Nat) (h : q_H) (a0 : Nat) (a1 : Int32) (a2 : Int32) {h' : q_H} (hm : m_X12_puts h a0 a1 a2 = some h') : q_M l yX12_puts cX12_puts 3 none 0 0 0 0 base D tc [.ref a0, .int a1, .int a2] sz h none sz h' := by
  refine q_startv (by decide) (Nat.le_of_ble_eq_true rfl) (fun Γ B K => ?_)
  obtain ⟨C, Rm, -⟩ := B
  have C : q_C Γ cX12_puts RX12 := C
  show q_V Γ sz 0 0 h [(0, .ref a0), (1, .int a1), (2, .int a2)] [] 0
  unfold m_X12_puts at hm
  refine q_aload_n C (k4 := 0) 0 rfl (by decide +kernel) ?_
  refine q_getn C fl_12_13 hm (by decide +kernel) (fun v1 hm => ?_)
  refine q_sipush C (n := 400) (v := 400) (by decide) (by decide +kernel) ?_
  refine q_aload_n C (k4 := 0) 0 rfl (by decide +kernel) ?_
  refine q_geti C fl_12_147 hm (by decide +kernel) (fun v2 hm => ?_)
  refine q_imul C (by decide +kernel) ?_
  refine q_aload_n C (k4 := 0) 0 rfl (by decide +kernel) ?_
  refine q_getn C fl_12_17 hm (by decide +kernel) (fun v3 hm => ?_)
  refine q_aload_n C (k4 := 0) 0 rfl (by decide +kernel) ?_
  refine q_geti C fl_12_147 hm (by decide +kernel) (fun v4 hm => ?_)
  refine q_ir C hm (by decide +kernel) (fun v5 hm => ?_)
  refine q_iadd C (by decide +kernel) ?_
  refine q_iload_n C (k4 := 1) 1 rfl (by decide +kernel) ?_
  refine q_bipush C (n := 16) (v := 16) (by decide) (by decide +kernel) ?_
  refine q_iload_n C (k4 := 2) 2 rfl (by decide +kernel) ?_
  refine q_imul C (by decide +kernel) ?_
  refine q_iadd C (by decide +kernel) ?_
  refine q_iw C hm (by decide +kernel) (fun h6 hm => ?_)
  refine q_aload_n C (k4 := 0) 0 rfl (by decide +kernel) ?_
  refine q_getn C fl_12_17 hm (by decide +kernel) (fun v7 hm => ?_)
  refine q_aload_n C (k4 := 0) 0 rfl (by decide +kernel) ?_
  refine q_geti C fl_12_147 hm (by decide +kernel) (fun v8 hm => ?_)
  refine q_dup2 C rfl rfl (by decide +kernel) ?_
  refine q_ir C hm (by decide +kernel) (fun v9 hm => ?_)
  refine q_iconst C (n := 1) (v := 1) (by decide) (by decide +kernel) ?_
  refine q_iadd C (by decide +kernel) ?_
  refine q_iw C hm (by decide +kernel) (fun h10 hm => ?_)
  exact q_rvS hm K (by decide +kernel)
def m_X12_makes (h : q_H) (a0 : Nat) (a1 : Int32) : Option (Int32 × q_H) :=
  (q_gi h a0 12 12).bind fun v1 =>
  if v1 = (60 : Int32) then
    (q_ca 12 h a0 (m_X12_fails h a0 ((3 : Int32)) a1)).bind fun (r4, h5) =>
    some (r4, h5)
  else
    (q_gi h a0 12 12).bind fun v2 =>
    (q_pf h a0 12 12 (.int ((v2 + (1 : Int32))))).bind fun h3 =>
    some ((1 : Int32), h3)
set_option maxRecDepth 20000 in
set_option maxHeartbeats 1000000 in
theorem c_X12_makes (l : Launch) (base : Nat) (D : va_G) (tc : Nat → ClassId) (sz : Nat) (h : q_H) (a0 : Nat) (a1 : Int32) {r : Int32} {h' : q_H} (hm : m_X12_makes h a0 a1 = some (r, h')) : q_M l yX12_makes cX12_makes 2 (some .boolean) 1 22 0 0 base D tc [.ref a0, .int a1] sz h (some (.int r)) sz h' := by
  refine q_starti (by decide) (Nat.le_of_ble_eq_true rfl) (fun Γ B K => ?_)
  obtain ⟨C, Rm, -⟩ := B
  have C : q_C Γ cX12_makes RX12 := C
  show q_V Γ sz 0 0 h [(0, .ref a0), (1, .int a1)] [] 0
  unfold m_X12_makes at hm
  refine q_aload_n C (k4 := 0) 0 rfl (by decide +kernel) ?_
  refine q_geti C fl_12_150 hm (by decide +kernel) (fun v1 hm => ?_)
  refine q_bipush C (n := 60) (v := 60) (by decide) (by decide +kernel) ?_
  refine q_icmp_ne C (off := 10) 16 hm (by decide +kernel) (by decide) (fun _ hm => ?_) (fun _ hm => ?_)
  · refine q_aload_n C (k4 := 0) 0 rfl (by decide +kernel) ?_
    refine q_dup C rfl (by decide +kernel) ?_
    refine q_geti C fl_12_150 hm (by decide +kernel) (fun v2 hm => ?_)
    refine q_iconst C (n := 1) (v := 1) (by decide) (by decide +kernel) ?_
    refine q_iadd C (by decide +kernel) ?_
    refine q_putf C fl_12_150 hm rfl rfl (by decide +kernel) (fun h3 hm => ?_)
    refine q_iconst C (n := 1) (v := 1) (by decide) (by decide +kernel) ?_
    exact q_riS hm K q_z1 (by decide +kernel)
  · refine q_aload_n C (k4 := 0) 0 rfl (by decide +kernel) ?_
    refine q_iconst C (n := 3) (v := 3) (by decide) (by decide +kernel) ?_
    refine q_iload_n C (k4 := 1) 1 rfl (by decide +kernel) ?_
    refine q_viS C Rm (As := [.int ((3 : Int32)), .int a1]) (rest := []) Y_X12_fails Yv_X12_fails ml_X12_114 (by decide) (by decide) hm (fun r4 h5 e9 => c_X12_fails _ _ _ _ _ _ _ _ _ e9) rfl rfl (Nat.le_of_ble_eq_true rfl) (by decide +kernel) (fun r4 h5 hm z6 => ?_)
    exact q_riS hm K z6 (by decide +kernel)
def m_X12_opens (h : q_H) (a0 : Nat) (a1 : Int32) : Option (Int32 × q_H) :=
  (q_gi h a0 12 13).bind fun v1 =>
  if v1 = (10 : Int32) then
    (q_gi h a0 12 8).bind fun v9 =>
    (q_ca 12 h a0 (m_X12_fails h a0 ((2 : Int32)) v9)).bind fun (r10, h11) =>
    some (r10, h11)
  else
    (q_gi h a0 12 13).bind fun v2 =>
    (q_pf h a0 12 13 (.int ((v2 + (1 : Int32))))).bind fun h3 =>
    (q_gn h3 a0 12 15).bind fun v4 =>
    (q_gi h3 a0 12 16).bind fun v5 =>
    (q_si h3 v4 1 v5 a1).bind fun h6 =>
    (q_gi h6 a0 12 16).bind fun v7 =>
    (q_pf h6 a0 12 16 (.int ((v7 + (1 : Int32))))).bind fun h8 =>
    some ((1 : Int32), h8)
set_option maxRecDepth 20000 in
set_option maxHeartbeats 1000000 in
theorem c_X12_opens (l : Launch) (base : Nat) (D : va_G) (tc : Nat → ClassId) (sz : Nat) (h : q_H) (a0 : Nat) (a1 : Int32) {r : Int32} {h' : q_H} (hm : m_X12_opens h a0 a1 = some (r, h')) : q_M l yX12_opens cX12_opens 2 (some .boolean) 1 22 0 0 base D tc [.ref a0, .int a1] sz h (some (.int r)) sz h' := by
  refine q_starti (by decide) (Nat.le_of_ble_eq_true rfl) (fun Γ B K => ?_)
  obtain ⟨C, Rm, -⟩ := B
  have C : q_C Γ cX12_opens RX12 := C
  show q_V Γ sz 0 0 h [(0, .ref a0), (1, .int a1)] [] 0
  unfold m_X12_opens at hm
  refine q_aload_n C (k4 := 0) 0 rfl (by decide +kernel) ?_
  refine q_geti C fl_12_153 hm (by decide +kernel) (fun v1 hm => ?_)
  refine q_bipush C (n := 10) (v := 10) (by decide) (by decide +kernel) ?_
  refine q_icmp_ne C (off := 13) 19 hm (by decide +kernel) (by decide) (fun _ hm => ?_) (fun _ hm => ?_)
  · refine q_aload_n C (k4 := 0) 0 rfl (by decide +kernel) ?_
    refine q_dup C rfl (by decide +kernel) ?_
    refine q_geti C fl_12_153 hm (by decide +kernel) (fun v2 hm => ?_)
    refine q_iconst C (n := 1) (v := 1) (by decide) (by decide +kernel) ?_
    refine q_iadd C (by decide +kernel) ?_
    refine q_putf C fl_12_153 hm rfl rfl (by decide +kernel) (fun h3 hm => ?_)
    refine q_aload_n C (k4 := 0) 0 rfl (by decide +kernel) ?_
    refine q_getn C fl_12_29 hm (by decide +kernel) (fun v4 hm => ?_)
    refine q_aload_n C (k4 := 0) 0 rfl (by decide +kernel) ?_
    refine q_geti C fl_12_156 hm (by decide +kernel) (fun v5 hm => ?_)
    refine q_iload_n C (k4 := 1) 1 rfl (by decide +kernel) ?_
    refine q_iw C hm (by decide +kernel) (fun h6 hm => ?_)
    refine q_aload_n C (k4 := 0) 0 rfl (by decide +kernel) ?_
    refine q_dup C rfl (by decide +kernel) ?_
    refine q_geti C fl_12_156 hm (by decide +kernel) (fun v7 hm => ?_)
    refine q_iconst C (n := 1) (v := 1) (by decide) (by decide +kernel) ?_
    refine q_iadd C (by decide +kernel) ?_
    refine q_putf C fl_12_156 hm rfl rfl (by decide +kernel) (fun h8 hm => ?_)
    refine q_iconst C (n := 1) (v := 1) (by decide) (by decide +kernel) ?_
    exact q_riS hm K q_z1 (by decide +kernel)
  · refine q_aload_n C (k4 := 0) 0 rfl (by decide +kernel) ?_
    refine q_iconst C (n := 2) (v := 2) (by decide) (by decide +kernel) ?_
    refine q_aload_n C (k4 := 0) 0 rfl (by decide +kernel) ?_
    refine q_geti C fl_12_93 hm (by decide +kernel) (fun v9 hm => ?_)
    refine q_viS C Rm (As := [.int ((2 : Int32)), .int v9]) (rest := []) Y_X12_fails Yv_X12_fails ml_X12_114 (by decide) (by decide) hm (fun r10 h11 e9 => c_X12_fails _ _ _ _ _ _ _ _ _ e9) rfl rfl (Nat.le_of_ble_eq_true rfl) (by decide +kernel) (fun r10 h11 hm z12 => ?_)
    exact q_riS hm K z12 (by decide +kernel)
def m_X12_strength (a0 : Int32) : Option Int32 :=
  if a0 = (13 : Int32) then
    some ((1 : Int32))
  else
    if a0 = (12 : Int32) then
      some ((2 : Int32))
    else
      if a0 = (11 : Int32) then
        some ((3 : Int32))
      else
        some ((0 : Int32))
set_option maxRecDepth 20000 in
set_option maxHeartbeats 1000000 in
theorem c_X12_strength (l : Launch) (base : Nat) (D : va_G) (tc : Nat → ClassId) (sz : Nat) (h0 : q_H) (a0 : Int32) {r : Int32} (hm : m_X12_strength a0 = some r) : q_M l yX12_strength cX12_strength 1 (some .int) 0 0 0 0 base D tc [.int a0] sz h0 (some (.int r)) sz h0 := by
  refine q_starti (by decide) (Nat.le_of_ble_eq_true rfl) (fun Γ B K => ?_)
  obtain ⟨C, Rm, -⟩ := B
  have C : q_C Γ cX12_strength RX12 := C
  show q_V Γ sz 0 0 h0 [(0, .int a0)] [] 0
  unfold m_X12_strength at hm
  refine q_iload_n C (k4 := 0) 0 rfl (by decide +kernel) ?_
  refine q_bipush C (n := 13) (v := 13) (by decide) (by decide +kernel) ?_
  refine q_icmp_ne C (off := 7) 10 hm (by decide +kernel) (by decide) (fun _ hm => ?_) (fun _ hm => ?_)
  · refine q_iload_n C (k4 := 0) 0 rfl (by decide +kernel) ?_
    refine q_bipush C (n := 12) (v := 12) (by decide) (by decide +kernel) ?_
    refine q_icmp_ne C (off := 7) 20 hm (by decide +kernel) (by decide) (fun _ hm => ?_) (fun _ hm => ?_)
    · refine q_iload_n C (k4 := 0) 0 rfl (by decide +kernel) ?_
      refine q_bipush C (n := 11) (v := 11) (by decide) (by decide +kernel) ?_
      refine q_icmp_ne C (off := 7) 30 hm (by decide +kernel) (by decide) (fun _ hm => ?_) (fun _ hm => ?_)
      · refine q_iconst C (n := 0) (v := 0) (by decide) (by decide +kernel) ?_
        exact q_riP hm K rfl (by decide +kernel)
      · refine q_iconst C (n := 3) (v := 3) (by decide) (by decide +kernel) ?_
        refine q_goto C (off := 4) 31 (by decide +kernel) (by decide) ?_
        exact q_riP hm K rfl (by decide +kernel)
    · refine q_iconst C (n := 2) (v := 2) (by decide) (by decide +kernel) ?_
      refine q_goto C (off := 14) 31 (by decide +kernel) (by decide) ?_
      exact q_riP hm K rfl (by decide +kernel)
  · refine q_iconst C (n := 1) (v := 1) (by decide) (by decide +kernel) ?_
    refine q_goto C (off := 24) 31 (by decide +kernel) (by decide) ?_
    exact q_riP hm K rfl (by decide +kernel)
def m_X12_layDown_0  : Nat → q_H → Nat → Int32 → Option q_H
  | 0, _, _, _ => none
  | n + 1, h, x0, x1 =>
    (q_gi h x0 12 16).bind fun v1 =>
    if v1 ≤ 0 then
      some h
    else
      (q_gn h x0 12 15).bind fun v2 =>
      (q_gi h x0 12 16).bind fun v3 =>
      (q_ai h v2 1 ((v3 - (1 : Int32)))).bind fun v4 =>
      (m_X12_strength v4).bind fun r5 =>
      if r5 < x1 then
        some h
      else
        (q_gi h x0 12 16).bind fun v7 =>
        (q_pf h x0 12 16 (.int ((v7 - (1 : Int32))))).bind fun h8 =>
        (q_gn h8 x0 12 15).bind fun v9 =>
        (q_gi h8 x0 12 16).bind fun v10 =>
        (q_ai h8 v9 1 v10).bind fun v11 =>
        (q_ca 12 h8 x0 (m_X12_puts h8 x0 v11 ((0 : Int32)))).bind fun h13 =>
        (q_gn h13 x0 12 15).bind fun v14 =>
        (q_gi h13 x0 12 16).bind fun v15 =>
        (q_ai h13 v14 1 v15).bind fun v16 =>
        if v16 = (11 : Int32) then
          (q_gi h13 x0 12 13).bind fun v17 =>
          (q_pf h13 x0 12 13 (.int ((v17 - (1 : Int32))))).bind fun h18 =>
          m_X12_layDown_0 n h18 x0 x1
        else
          m_X12_layDown_0 n h13 x0 x1
set_option maxRecDepth 20000 in
set_option maxHeartbeats 1000000 in
theorem v_X12_layDown_0 {Γ : q_G} {sz : Nat} {h' : q_H} (C : q_C Γ cX12_layDown RX12) (Rm : q_Rm Γ 2 1 22 0 0)  (K : q_K Γ cX12_layDown .return_ sz h' 0 0 [])  : ∀ (n : Nat) (h : q_H) (x0 : Nat) (x1 : Int32), m_X12_layDown_0 n h x0 x1 = some h' → q_V Γ sz 0 0 h [(0, .ref x0), (1, .int x1)] [] 0 := by
  intro n
  induction n with
  | zero => intro h x0 x1 hm; cases hm
  | succ n ih =>
    intro h x0 x1 hm
    unfold m_X12_layDown_0 at hm
    refine q_aload_n C (k4 := 0) 0 rfl (by decide +kernel) ?_
    refine q_geti C fl_12_156 hm (by decide +kernel) (fun v1 hm => ?_)
    refine q_if_le C (off := 72) 76 hm (by decide +kernel) (by decide) (fun _ hm => ?_) (fun _ hm => ?_)
    · exact q_rvS hm K (by decide +kernel)
    · refine q_aload_n C (k4 := 0) 0 rfl (by decide +kernel) ?_
      refine q_getn C fl_12_29 hm (by decide +kernel) (fun v2 hm => ?_)
      refine q_aload_n C (k4 := 0) 0 rfl (by decide +kernel) ?_
      refine q_geti C fl_12_156 hm (by decide +kernel) (fun v3 hm => ?_)
      refine q_iconst C (n := 1) (v := 1) (by decide) (by decide +kernel) ?_
      refine q_isub C (by decide +kernel) ?_
      refine q_ir C hm (by decide +kernel) (fun v4 hm => ?_)
      refine q_siP C Rm (As := [.int v4]) (rest := []) Y_X12_strength Ys_X12_strength ml_X12_159 (by decide) (by decide) hm (fun r9 e9 => c_X12_strength _ _ _ _ _ _ _ e9) rfl rfl (Nat.le_of_ble_eq_true rfl) (by decide +kernel) (fun r5 hm z6 => ?_)
      refine q_iload_n C (k4 := 1) 1 rfl (by decide +kernel) ?_
      refine q_icmp_lt C (off := 54) 76 hm (by decide +kernel) (by decide) (fun _ hm => ?_) (fun _ hm => ?_)
      · exact q_rvS hm K (by decide +kernel)
      · refine q_aload_n C (k4 := 0) 0 rfl (by decide +kernel) ?_
        refine q_dup C rfl (by decide +kernel) ?_
        refine q_geti C fl_12_156 hm (by decide +kernel) (fun v7 hm => ?_)
        refine q_iconst C (n := 1) (v := 1) (by decide) (by decide +kernel) ?_
        refine q_isub C (by decide +kernel) ?_
        refine q_putf C fl_12_156 hm rfl rfl (by decide +kernel) (fun h8 hm => ?_)
        refine q_aload_n C (k4 := 0) 0 rfl (by decide +kernel) ?_
        refine q_aload_n C (k4 := 0) 0 rfl (by decide +kernel) ?_
        refine q_getn C fl_12_29 hm (by decide +kernel) (fun v9 hm => ?_)
        refine q_aload_n C (k4 := 0) 0 rfl (by decide +kernel) ?_
        refine q_geti C fl_12_156 hm (by decide +kernel) (fun v10 hm => ?_)
        refine q_ir C hm (by decide +kernel) (fun v11 hm => ?_)
        refine q_iconst C (n := 0) (v := 0) (by decide) (by decide +kernel) ?_
        refine q_vvS C Rm (As := [.int v11, .int ((0 : Int32))]) (rest := []) Y_X12_puts Yv_X12_puts ml_X12_163 (by decide) (by decide) hm (fun h13 e9 => c_X12_puts _ _ _ _ _ _ _ _ _ e9) rfl rfl (Nat.le_of_ble_eq_true rfl) (by decide +kernel) (fun h13 hm => ?_)
        refine q_aload_n C (k4 := 0) 0 rfl (by decide +kernel) ?_
        refine q_getn C fl_12_29 hm (by decide +kernel) (fun v14 hm => ?_)
        refine q_aload_n C (k4 := 0) 0 rfl (by decide +kernel) ?_
        refine q_geti C fl_12_156 hm (by decide +kernel) (fun v15 hm => ?_)
        refine q_ir C hm (by decide +kernel) (fun v16 hm => ?_)
        refine q_bipush C (n := 11) (v := 11) (by decide) (by decide +kernel) ?_
        refine q_icmp_ne C (off := -60) 0 hm (by decide +kernel) (by decide) (fun _ hm => ?_) (fun _ hm => ?_)
        · exact ih _ _ _ hm
        · refine q_aload_n C (k4 := 0) 0 rfl (by decide +kernel) ?_
          refine q_dup C rfl (by decide +kernel) ?_
          refine q_geti C fl_12_153 hm (by decide +kernel) (fun v17 hm => ?_)
          refine q_iconst C (n := 1) (v := 1) (by decide) (by decide +kernel) ?_
          refine q_isub C (by decide +kernel) ?_
          refine q_putf C fl_12_153 hm rfl rfl (by decide +kernel) (fun h18 hm => ?_)
          refine q_goto C (off := -73) 0 (by decide +kernel) (by decide) ?_
          exact ih _ _ _ hm
def m_X12_layDown (h : q_H) (a0 : Nat) (a1 : Int32) : Option q_H :=
  m_X12_layDown_0 q_fu h a0 a1
set_option maxRecDepth 20000 in
set_option maxHeartbeats 1000000 in
theorem c_X12_layDown (l : Launch) (base : Nat) (D : va_G) (tc : Nat → ClassId) (sz : Nat) (h : q_H) (a0 : Nat) (a1 : Int32) {h' : q_H} (hm : m_X12_layDown h a0 a1 = some h') : q_M l yX12_layDown cX12_layDown 2 none 1 22 0 0 base D tc [.ref a0, .int a1] sz h none sz h' := by
  refine q_startv (by decide) (Nat.le_of_ble_eq_true rfl) (fun Γ B K => ?_)
  obtain ⟨C, Rm, -⟩ := B
  have C : q_C Γ cX12_layDown RX12 := C
  show q_V Γ sz 0 0 h [(0, .ref a0), (1, .int a1)] [] 0
  unfold m_X12_layDown at hm
  exact v_X12_layDown_0 C Rm K _ _ _ _ hm
def m_X12_value (h : q_H) (a0 : Nat) : Option (Int32 × q_H) :=
  (q_ca 12 h a0 (m_X12_see h a0)).bind fun (r1, h2) =>
  (q_gi h2 a0 12 8).bind fun v4 =>
  (q_gi h2 a0 12 8).bind fun v5 =>
  (q_ca 12 h2 a0 (m_X12_isDigit h2 a0 v5)).bind fun r6 =>
  if r6 = 0 then
    (q_ca 12 h2 a0 (m_X12_wordHere h2 a0)).bind fun (r8, h9) =>
    if 0 ≤ r8 then
      (q_ca 12 h9 a0 (m_X12_makes h9 a0 v4)).bind fun (r11, h12) =>
      if r11 = 0 then
        some ((0 : Int32), h12)
      else
        (q_ca 12 h12 a0 (m_X12_passWord h12 a0)).bind fun h15 =>
        (q_ca 12 h15 a0 (m_X12_puts h15 a0 ((1 : Int32)) r8)).bind fun h17 =>
        some ((1 : Int32), h17)
    else
      (q_ca 12 h9 a0 (m_X12_fails h9 a0 ((0 : Int32)) v4)).bind fun (r18, h19) =>
      some (r18, h19)
  else
    (q_ca 12 h2 a0 (m_X12_numberHere h2 a0 ((0 : Int32)) ((99999 : Int32)))).bind fun (r21, h22) =>
    if r21 = 0 then
      some ((0 : Int32), h22)
    else
      (q_ca 12 h22 a0 (m_X12_makes h22 a0 v4)).bind fun (r24, h25) =>
      if r24 = 0 then
        some ((0 : Int32), h25)
      else
        (q_gi h25 a0 12 10).bind fun v27 =>
        (q_ca 12 h25 a0 (m_X12_puts h25 a0 ((0 : Int32)) v27)).bind fun h29 =>
        some ((1 : Int32), h29)
set_option maxRecDepth 20000 in
set_option maxHeartbeats 1000000 in
theorem c_X12_value (l : Launch) (base : Nat) (D : va_G) (tc : Nat → ClassId) (sz : Nat) (h : q_H) (a0 : Nat) {r : Int32} {h' : q_H} (hm : m_X12_value h a0 = some (r, h')) : q_M l yX12_value cX12_value 3 (some .boolean) 3 66 0 0 base D tc [.ref a0] sz h (some (.int r)) sz h' := by
  refine q_starti (by decide) (Nat.le_of_ble_eq_true rfl) (fun Γ B K => ?_)
  obtain ⟨C, Rm, -⟩ := B
  have C : q_C Γ cX12_value RX12 := C
  show q_V Γ sz 0 0 h [(0, .ref a0)] [] 0
  unfold m_X12_value at hm
  refine q_aload_n C (k4 := 0) 0 rfl (by decide +kernel) ?_
  refine q_viS C Rm (As := []) (rest := []) Y_X12_see Yv_X12_see ml_X12_96 (by decide) (by decide) hm (fun r1 h2 e9 => c_X12_see _ _ _ _ _ _ _ e9) rfl rfl (Nat.le_of_ble_eq_true rfl) (by decide +kernel) (fun r1 h2 hm z3 => ?_)
  refine q_pop C rfl (by decide +kernel) ?_
  refine q_aload_n C (k4 := 0) 0 rfl (by decide +kernel) ?_
  refine q_geti C fl_12_93 hm (by decide +kernel) (fun v4 hm => ?_)
  refine q_istore_n C Rm.1 (k4 := 1) (i := 1) rfl (lv' := [(1, .int v4), (0, .ref a0)]) rfl (by decide) (by decide +kernel) ?_
  refine q_aload_n C (k4 := 0) 1 rfl (by decide +kernel) ?_
  refine q_aload_n C (k4 := 0) 1 rfl (by decide +kernel) ?_
  refine q_geti C fl_12_93 hm (by decide +kernel) (fun v5 hm => ?_)
  refine q_viP C Rm (As := [.int v5]) (rest := []) Y_X12_isDigit Yv_X12_isDigit ml_X12_111 (by decide) (by decide) hm (fun r9 e9 => c_X12_isDigit _ _ _ _ _ _ _ _ e9) rfl rfl (Nat.le_of_ble_eq_true rfl) (by decide +kernel) (fun r6 hm z7 => ?_)
  refine q_if_eq C (off := 34) 52 hm (by decide +kernel) (by decide) (fun _ hm => ?_) (fun _ hm => ?_)
  · refine q_aload_n C (k4 := 0) 1 rfl (by decide +kernel) ?_
    refine q_viS C Rm (As := []) (rest := []) Y_X12_wordHere Yv_X12_wordHere ml_X12_174 (by decide) (by decide) hm (fun r8 h9 e9 => c_X12_wordHere _ _ _ _ _ _ _ e9) rfl rfl (Nat.le_of_ble_eq_true rfl) (by decide +kernel) (fun r8 h9 hm z10 => ?_)
    refine q_istore_n C Rm.1 (k4 := 2) (i := 2) rfl (lv' := [(2, .int r8), (1, .int v4), (0, .ref a0)]) rfl (by decide) (by decide +kernel) ?_
    refine q_iload_n C (k4 := 2) 0 rfl (by decide +kernel) ?_
    refine q_if_ge C (off := 10) 68 hm (by decide +kernel) (by decide) (fun _ hm => ?_) (fun _ hm => ?_)
    · refine q_aload_n C (k4 := 0) 2 rfl (by decide +kernel) ?_
      refine q_iload_n C (k4 := 1) 1 rfl (by decide +kernel) ?_
      refine q_viS C Rm (As := [.int v4]) (rest := []) Y_X12_makes Yv_X12_makes ml_X12_171 (by decide) (by decide) hm (fun r11 h12 e9 => c_X12_makes _ _ _ _ _ _ _ _ e9) rfl rfl (Nat.le_of_ble_eq_true rfl) (by decide +kernel) (fun r11 h12 hm z13 => ?_)
      refine q_if_ne C (off := 5) 78 hm (by decide +kernel) (by decide) (fun _ hm => ?_) (fun _ hm => ?_)
      · refine q_aload_n C (k4 := 0) 2 rfl (by decide +kernel) ?_
        refine q_vvS C Rm (As := []) (rest := []) Y_X12_passWord Yv_X12_passWord ml_X12_108 (by decide) (by decide) hm (fun h15 e9 => c_X12_passWord _ _ _ _ _ _ _ e9) rfl rfl (Nat.le_of_ble_eq_true rfl) (by decide +kernel) (fun h15 hm => ?_)
        refine q_aload_n C (k4 := 0) 2 rfl (by decide +kernel) ?_
        refine q_iconst C (n := 1) (v := 1) (by decide) (by decide +kernel) ?_
        refine q_iload_n C (k4 := 2) 0 rfl (by decide +kernel) ?_
        refine q_vvS C Rm (As := [.int ((1 : Int32)), .int r8]) (rest := []) Y_X12_puts Yv_X12_puts ml_X12_163 (by decide) (by decide) hm (fun h17 e9 => c_X12_puts _ _ _ _ _ _ _ _ _ e9) rfl rfl (Nat.le_of_ble_eq_true rfl) (by decide +kernel) (fun h17 hm => ?_)
        refine q_iconst C (n := 1) (v := 1) (by decide) (by decide +kernel) ?_
        exact q_riS hm K q_z1 (by decide +kernel)
      · refine q_iconst C (n := 0) (v := 0) (by decide) (by decide +kernel) ?_
        exact q_riS hm K q_z0 (by decide +kernel)
    · refine q_aload_n C (k4 := 0) 2 rfl (by decide +kernel) ?_
      refine q_iconst C (n := 0) (v := 0) (by decide) (by decide +kernel) ?_
      refine q_iload_n C (k4 := 1) 1 rfl (by decide +kernel) ?_
      refine q_viS C Rm (As := [.int ((0 : Int32)), .int v4]) (rest := []) Y_X12_fails Yv_X12_fails ml_X12_114 (by decide) (by decide) hm (fun r18 h19 e9 => c_X12_fails _ _ _ _ _ _ _ _ _ e9) rfl rfl (Nat.le_of_ble_eq_true rfl) (by decide +kernel) (fun r18 h19 hm z20 => ?_)
      exact q_riS hm K z20 (by decide +kernel)
  · refine q_aload_n C (k4 := 0) 1 rfl (by decide +kernel) ?_
    refine q_iconst C (n := 0) (v := 0) (by decide) (by decide +kernel) ?_
    refine q_ldc C (idx := 167) (v := 99999) (q_m6 103 rfl rfl) (by decide +kernel) ?_
    refine q_viS C Rm (As := [.int ((0 : Int32)), .int ((99999 : Int32))]) (rest := []) Y_X12_numberHere Yv_X12_numberHere ml_X12_168 (by decide) (by decide) hm (fun r21 h22 e9 => c_X12_numberHere _ _ _ _ _ _ _ _ _ e9) rfl rfl (Nat.le_of_ble_eq_true rfl) (by decide +kernel) (fun r21 h22 hm z23 => ?_)
    refine q_if_eq C (off := 11) 39 hm (by decide +kernel) (by decide) (fun _ hm => ?_) (fun _ hm => ?_)
    · refine q_iconst C (n := 0) (v := 0) (by decide) (by decide +kernel) ?_
      exact q_riS hm K q_z0 (by decide +kernel)
    · refine q_aload_n C (k4 := 0) 1 rfl (by decide +kernel) ?_
      refine q_iload_n C (k4 := 1) 0 rfl (by decide +kernel) ?_
      refine q_viS C Rm (As := [.int v4]) (rest := []) Y_X12_makes Yv_X12_makes ml_X12_171 (by decide) (by decide) hm (fun r24 h25 e9 => c_X12_makes _ _ _ _ _ _ _ _ e9) rfl rfl (Nat.le_of_ble_eq_true rfl) (by decide +kernel) (fun r24 h25 hm z26 => ?_)
      refine q_if_ne C (off := 5) 41 hm (by decide +kernel) (by decide) (fun _ hm => ?_) (fun _ hm => ?_)
      · refine q_aload_n C (k4 := 0) 1 rfl (by decide +kernel) ?_
        refine q_iconst C (n := 0) (v := 0) (by decide) (by decide +kernel) ?_
        refine q_aload_n C (k4 := 0) 1 rfl (by decide +kernel) ?_
        refine q_geti C fl_12_118 hm (by decide +kernel) (fun v27 hm => ?_)
        refine q_vvS C Rm (As := [.int ((0 : Int32)), .int v27]) (rest := []) Y_X12_puts Yv_X12_puts ml_X12_163 (by decide) (by decide) hm (fun h29 e9 => c_X12_puts _ _ _ _ _ _ _ _ _ e9) rfl rfl (Nat.le_of_ble_eq_true rfl) (by decide +kernel) (fun h29 hm => ?_)
        refine q_iconst C (n := 1) (v := 1) (by decide) (by decide +kernel) ?_
        exact q_riS hm K q_z1 (by decide +kernel)
      · refine q_iconst C (n := 0) (v := 0) (by decide) (by decide +kernel) ?_
        exact q_riS hm K q_z0 (by decide +kernel)
def m_X12_term_74 (k9 : q_H → Nat → Option (Int32 × q_H)) (h : q_H) (x0 : Nat) (s0 : Int32) : Option (Int32 × q_H) :=
  (q_gi h x0 12 8).bind fun v19 =>
  (q_pf h x0 12 8 (.int ((v19 + (1 : Int32))))).bind fun h20 =>
  (q_ca 12 h20 x0 (m_X12_value h20 x0)).bind fun (r21, h22) =>
  if r21 = 0 then
    some ((0 : Int32), h22)
  else
    (q_ca 12 h22 x0 (m_X12_puts h22 x0 s0 ((0 : Int32)))).bind fun h25 =>
    k9 h25 x0
set_option maxRecDepth 20000 in
set_option maxHeartbeats 1000000 in
theorem v_X12_term_74 {Γ : q_G} {sz : Nat} {r : Int32} {h' : q_H} (C : q_C Γ cX12_term RX12) (Rm : q_Rm Γ 2 4 88 0 0) {k9 : q_H → Nat → Option (Int32 × q_H)} (K : narrow .boolean (.int r) = .int r → q_K Γ cX12_term .ireturn sz h' 0 0 [.int r]) (hk9 : ∀ (h : q_H) (x0 : Nat), k9 h x0 = some (r, h') → q_V Γ sz 0 0 h [(0, .ref x0)] [] 9) : ∀ (h : q_H) (x0 : Nat) (s0 : Int32), m_X12_term_74 k9 h x0 s0 = some (r, h') → q_V Γ sz 0 0 h [(0, .ref x0)] [.int s0] 74 := by
  intro h x0 s0 hm
  unfold m_X12_term_74 at hm
  refine q_istore_n C Rm.1 (k4 := 1) (i := 1) rfl (lv' := [(1, .int s0), (0, .ref x0)]) rfl (by decide) (by decide +kernel) ?_
  refine q_aload_n C (k4 := 0) 1 rfl (by decide +kernel) ?_
  refine q_dup C rfl (by decide +kernel) ?_
  refine q_geti C fl_12_93 hm (by decide +kernel) (fun v19 hm => ?_)
  refine q_iconst C (n := 1) (v := 1) (by decide) (by decide +kernel) ?_
  refine q_iadd C (by decide +kernel) ?_
  refine q_putf C fl_12_93 hm rfl rfl (by decide +kernel) (fun h20 hm => ?_)
  refine q_aload_n C (k4 := 0) 1 rfl (by decide +kernel) ?_
  refine q_viS C Rm (As := []) (rest := []) Y_X12_value Yv_X12_value ml_X12_177 (by decide) (by decide) hm (fun r21 h22 e9 => c_X12_value _ _ _ _ _ _ _ e9) rfl rfl (Nat.le_of_ble_eq_true rfl) (by decide +kernel) (fun r21 h22 hm z23 => ?_)
  refine q_if_ne C (off := 5) 94 hm (by decide +kernel) (by decide) (fun _ hm => ?_) (fun _ hm => ?_)
  · refine q_aload_n C (k4 := 0) 1 rfl (by decide +kernel) ?_
    refine q_iload_n C (k4 := 1) 0 rfl (by decide +kernel) ?_
    refine q_iconst C (n := 0) (v := 0) (by decide) (by decide +kernel) ?_
    refine q_vvS C Rm (As := [.int s0, .int ((0 : Int32))]) (rest := []) Y_X12_puts Yv_X12_puts ml_X12_163 (by decide) (by decide) hm (fun h25 e9 => c_X12_puts _ _ _ _ _ _ _ _ _ e9) rfl rfl (Nat.le_of_ble_eq_true rfl) (by decide +kernel) (fun h25 hm => ?_)
    refine q_goto C (off := -91) 9 (by decide +kernel) (by decide) ?_
    refine q_loc [1] rfl ?_
    exact hk9 _ _ hm
  · refine q_iconst C (n := 0) (v := 0) (by decide) (by decide +kernel) ?_
    exact q_riS hm K q_z0 (by decide +kernel)
def m_X12_term_36 (k9 : q_H → Nat → Option (Int32 × q_H)) (h : q_H) (x0 : Nat) : Option (Int32 × q_H) :=
  (q_gn h x0 12 0).bind fun v13 =>
  (q_gi h x0 12 8).bind fun v14 =>
  (q_ai h v13 0 v14).bind fun v15 =>
  if v15 = (42 : Int32) then
    m_X12_term_74 k9 h x0 ((4 : Int32))
  else
    (q_gn h x0 12 0).bind fun v16 =>
    (q_gi h x0 12 8).bind fun v17 =>
    (q_ai h v16 0 v17).bind fun v18 =>
    if v18 = (47 : Int32) then
      m_X12_term_74 k9 h x0 ((5 : Int32))
    else
      m_X12_term_74 k9 h x0 ((14 : Int32))
set_option maxRecDepth 20000 in
set_option maxHeartbeats 1000000 in
theorem v_X12_term_36 {Γ : q_G} {sz : Nat} {r : Int32} {h' : q_H} (C : q_C Γ cX12_term RX12) (Rm : q_Rm Γ 2 4 88 0 0) {k9 : q_H → Nat → Option (Int32 × q_H)} (K : narrow .boolean (.int r) = .int r → q_K Γ cX12_term .ireturn sz h' 0 0 [.int r]) (hk9 : ∀ (h : q_H) (x0 : Nat), k9 h x0 = some (r, h') → q_V Γ sz 0 0 h [(0, .ref x0)] [] 9) : ∀ (h : q_H) (x0 : Nat), m_X12_term_36 k9 h x0 = some (r, h') → q_V Γ sz 0 0 h [(0, .ref x0)] [] 36 := by
  intro h x0 hm
  unfold m_X12_term_36 at hm
  refine q_aload_n C (k4 := 0) 0 rfl (by decide +kernel) ?_
  refine q_getn C fl_12_7 hm (by decide +kernel) (fun v13 hm => ?_)
  refine q_aload_n C (k4 := 0) 0 rfl (by decide +kernel) ?_
  refine q_geti C fl_12_93 hm (by decide +kernel) (fun v14 hm => ?_)
  refine q_br C hm (by decide +kernel) (fun v15 hm => ?_)
  refine q_bipush C (n := 42) (v := 42) (by decide) (by decide +kernel) ?_
  refine q_icmp_ne C (off := 7) 54 hm (by decide +kernel) (by decide) (fun _ hm => ?_) (fun _ hm => ?_)
  · refine q_aload_n C (k4 := 0) 0 rfl (by decide +kernel) ?_
    refine q_getn C fl_12_7 hm (by decide +kernel) (fun v16 hm => ?_)
    refine q_aload_n C (k4 := 0) 0 rfl (by decide +kernel) ?_
    refine q_geti C fl_12_93 hm (by decide +kernel) (fun v17 hm => ?_)
    refine q_br C hm (by decide +kernel) (fun v18 hm => ?_)
    refine q_bipush C (n := 47) (v := 47) (by decide) (by decide +kernel) ?_
    refine q_icmp_ne C (off := 7) 72 hm (by decide +kernel) (by decide) (fun _ hm => ?_) (fun _ hm => ?_)
    · refine q_bipush C (n := 14) (v := 14) (by decide) (by decide +kernel) ?_
      exact v_X12_term_74 C Rm K hk9 _ _ _ hm
    · refine q_iconst C (n := 5) (v := 5) (by decide) (by decide +kernel) ?_
      refine q_goto C (off := 5) 74 (by decide +kernel) (by decide) ?_
      exact v_X12_term_74 C Rm K hk9 _ _ _ hm
  · refine q_iconst C (n := 4) (v := 4) (by decide) (by decide +kernel) ?_
    refine q_goto C (off := 23) 74 (by decide +kernel) (by decide) ?_
    exact v_X12_term_74 C Rm K hk9 _ _ _ hm
def m_X12_term_9  : Nat → q_H → Nat → Option (Int32 × q_H)
  | 0, _, _ => none
  | n + 1, h, x0 =>
    (q_ca 12 h x0 (m_X12_see h x0)).bind fun (r4, h5) =>
    if r4 = (42 : Int32) then
      m_X12_term_36 (m_X12_term_9 n) h5 x0
    else
      (q_ca 12 h5 x0 (m_X12_see h5 x0)).bind fun (r7, h8) =>
      if r7 = (47 : Int32) then
        m_X12_term_36 (m_X12_term_9 n) h8 x0
      else
        (q_ca 12 h8 x0 (m_X12_see h8 x0)).bind fun (r10, h11) =>
        if r10 = (37 : Int32) then
          m_X12_term_36 (m_X12_term_9 n) h11 x0
        else
          some ((1 : Int32), h11)
set_option maxRecDepth 20000 in
set_option maxHeartbeats 1000000 in
theorem v_X12_term_9 {Γ : q_G} {sz : Nat} {r : Int32} {h' : q_H} (C : q_C Γ cX12_term RX12) (Rm : q_Rm Γ 2 4 88 0 0)  (K : narrow .boolean (.int r) = .int r → q_K Γ cX12_term .ireturn sz h' 0 0 [.int r])  : ∀ (n : Nat) (h : q_H) (x0 : Nat), m_X12_term_9 n h x0 = some (r, h') → q_V Γ sz 0 0 h [(0, .ref x0)] [] 9 := by
  intro n
  induction n with
  | zero => intro h x0 hm; cases hm
  | succ n ih =>
    intro h x0 hm
    unfold m_X12_term_9 at hm
    refine q_aload_n C (k4 := 0) 0 rfl (by decide +kernel) ?_
    refine q_viS C Rm (As := []) (rest := []) Y_X12_see Yv_X12_see ml_X12_96 (by decide) (by decide) hm (fun r4 h5 e9 => c_X12_see _ _ _ _ _ _ _ e9) rfl rfl (Nat.le_of_ble_eq_true rfl) (by decide +kernel) (fun r4 h5 hm z6 => ?_)
    refine q_bipush C (n := 42) (v := 42) (by decide) (by decide +kernel) ?_
    refine q_icmp_eq C (off := 21) 36 hm (by decide +kernel) (by decide) (fun _ hm => ?_) (fun _ hm => ?_)
    · exact v_X12_term_36 C Rm K ih _ _ hm
    · refine q_aload_n C (k4 := 0) 0 rfl (by decide +kernel) ?_
      refine q_viS C Rm (As := []) (rest := []) Y_X12_see Yv_X12_see ml_X12_96 (by decide) (by decide) hm (fun r7 h8 e9 => c_X12_see _ _ _ _ _ _ _ e9) rfl rfl (Nat.le_of_ble_eq_true rfl) (by decide +kernel) (fun r7 h8 hm z9 => ?_)
      refine q_bipush C (n := 47) (v := 47) (by decide) (by decide +kernel) ?_
      refine q_icmp_eq C (off := 12) 36 hm (by decide +kernel) (by decide) (fun _ hm => ?_) (fun _ hm => ?_)
      · exact v_X12_term_36 C Rm K ih _ _ hm
      · refine q_aload_n C (k4 := 0) 0 rfl (by decide +kernel) ?_
        refine q_viS C Rm (As := []) (rest := []) Y_X12_see Yv_X12_see ml_X12_96 (by decide) (by decide) hm (fun r10 h11 e9 => c_X12_see _ _ _ _ _ _ _ e9) rfl rfl (Nat.le_of_ble_eq_true rfl) (by decide +kernel) (fun r10 h11 hm z12 => ?_)
        refine q_bipush C (n := 37) (v := 37) (by decide) (by decide +kernel) ?_
        refine q_icmp_ne C (off := 70) 103 hm (by decide +kernel) (by decide) (fun _ hm => ?_) (fun _ hm => ?_)
        · refine q_iconst C (n := 1) (v := 1) (by decide) (by decide +kernel) ?_
          exact q_riS hm K q_z1 (by decide +kernel)
        · exact v_X12_term_36 C Rm K ih _ _ hm
def m_X12_term (h : q_H) (a0 : Nat) : Option (Int32 × q_H) :=
  (q_ca 12 h a0 (m_X12_value h a0)).bind fun (r1, h2) =>
  if r1 = 0 then
    some ((0 : Int32), h2)
  else
    m_X12_term_9 q_fu h2 a0
set_option maxRecDepth 20000 in
set_option maxHeartbeats 1000000 in
theorem c_X12_term (l : Launch) (base : Nat) (D : va_G) (tc : Nat → ClassId) (sz : Nat) (h : q_H) (a0 : Nat) {r : Int32} {h' : q_H} (hm : m_X12_term h a0 = some (r, h')) : q_M l yX12_term cX12_term 2 (some .boolean) 4 88 0 0 base D tc [.ref a0] sz h (some (.int r)) sz h' := by
  refine q_starti (by decide) (Nat.le_of_ble_eq_true rfl) (fun Γ B K => ?_)
  obtain ⟨C, Rm, -⟩ := B
  have C : q_C Γ cX12_term RX12 := C
  show q_V Γ sz 0 0 h [(0, .ref a0)] [] 0
  unfold m_X12_term at hm
  refine q_aload_n C (k4 := 0) 0 rfl (by decide +kernel) ?_
  refine q_viS C Rm (As := []) (rest := []) Y_X12_value Yv_X12_value ml_X12_177 (by decide) (by decide) hm (fun r1 h2 e9 => c_X12_value _ _ _ _ _ _ _ e9) rfl rfl (Nat.le_of_ble_eq_true rfl) (by decide +kernel) (fun r1 h2 hm z3 => ?_)
  refine q_if_ne C (off := 5) 9 hm (by decide +kernel) (by decide) (fun _ hm => ?_) (fun _ hm => ?_)
  · exact v_X12_term_9 C Rm K _ _ _ hm
  · refine q_iconst C (n := 0) (v := 0) (by decide) (by decide +kernel) ?_
    exact q_riS hm K q_z0 (by decide +kernel)
def m_X12_sum_46 (k9 : q_H → Nat → Option (Int32 × q_H)) (h : q_H) (x0 : Nat) (s0 : Int32) : Option (Int32 × q_H) :=
  (q_gi h x0 12 8).bind fun v13 =>
  (q_pf h x0 12 8 (.int ((v13 + (1 : Int32))))).bind fun h14 =>
  (q_ca 12 h14 x0 (m_X12_term h14 x0)).bind fun (r15, h16) =>
  if r15 = 0 then
    some ((0 : Int32), h16)
  else
    (q_ca 12 h16 x0 (m_X12_puts h16 x0 s0 ((0 : Int32)))).bind fun h19 =>
    k9 h19 x0
set_option maxRecDepth 20000 in
set_option maxHeartbeats 1000000 in
theorem v_X12_sum_46 {Γ : q_G} {sz : Nat} {r : Int32} {h' : q_H} (C : q_C Γ cX12_sum RX12) (Rm : q_Rm Γ 2 5 109 0 0) {k9 : q_H → Nat → Option (Int32 × q_H)} (K : narrow .boolean (.int r) = .int r → q_K Γ cX12_sum .ireturn sz h' 0 0 [.int r]) (hk9 : ∀ (h : q_H) (x0 : Nat), k9 h x0 = some (r, h') → q_V Γ sz 0 0 h [(0, .ref x0)] [] 9) : ∀ (h : q_H) (x0 : Nat) (s0 : Int32), m_X12_sum_46 k9 h x0 s0 = some (r, h') → q_V Γ sz 0 0 h [(0, .ref x0)] [.int s0] 46 := by
  intro h x0 s0 hm
  unfold m_X12_sum_46 at hm
  refine q_istore_n C Rm.1 (k4 := 1) (i := 1) rfl (lv' := [(1, .int s0), (0, .ref x0)]) rfl (by decide) (by decide +kernel) ?_
  refine q_aload_n C (k4 := 0) 1 rfl (by decide +kernel) ?_
  refine q_dup C rfl (by decide +kernel) ?_
  refine q_geti C fl_12_93 hm (by decide +kernel) (fun v13 hm => ?_)
  refine q_iconst C (n := 1) (v := 1) (by decide) (by decide +kernel) ?_
  refine q_iadd C (by decide +kernel) ?_
  refine q_putf C fl_12_93 hm rfl rfl (by decide +kernel) (fun h14 hm => ?_)
  refine q_aload_n C (k4 := 0) 1 rfl (by decide +kernel) ?_
  refine q_viS C Rm (As := []) (rest := []) Y_X12_term Yv_X12_term ml_X12_181 (by decide) (by decide) hm (fun r15 h16 e9 => c_X12_term _ _ _ _ _ _ _ e9) rfl rfl (Nat.le_of_ble_eq_true rfl) (by decide +kernel) (fun r15 h16 hm z17 => ?_)
  refine q_if_ne C (off := 5) 66 hm (by decide +kernel) (by decide) (fun _ hm => ?_) (fun _ hm => ?_)
  · refine q_aload_n C (k4 := 0) 1 rfl (by decide +kernel) ?_
    refine q_iload_n C (k4 := 1) 0 rfl (by decide +kernel) ?_
    refine q_iconst C (n := 0) (v := 0) (by decide) (by decide +kernel) ?_
    refine q_vvS C Rm (As := [.int s0, .int ((0 : Int32))]) (rest := []) Y_X12_puts Yv_X12_puts ml_X12_163 (by decide) (by decide) hm (fun h19 e9 => c_X12_puts _ _ _ _ _ _ _ _ _ e9) rfl rfl (Nat.le_of_ble_eq_true rfl) (by decide +kernel) (fun h19 hm => ?_)
    refine q_goto C (off := -63) 9 (by decide +kernel) (by decide) ?_
    refine q_loc [1] rfl ?_
    exact hk9 _ _ hm
  · refine q_iconst C (n := 0) (v := 0) (by decide) (by decide +kernel) ?_
    exact q_riS hm K q_z0 (by decide +kernel)
def m_X12_sum_27 (k9 : q_H → Nat → Option (Int32 × q_H)) (h : q_H) (x0 : Nat) : Option (Int32 × q_H) :=
  (q_gn h x0 12 0).bind fun v10 =>
  (q_gi h x0 12 8).bind fun v11 =>
  (q_ai h v10 0 v11).bind fun v12 =>
  if v12 = (43 : Int32) then
    m_X12_sum_46 k9 h x0 ((2 : Int32))
  else
    m_X12_sum_46 k9 h x0 ((3 : Int32))
set_option maxRecDepth 20000 in
set_option maxHeartbeats 1000000 in
theorem v_X12_sum_27 {Γ : q_G} {sz : Nat} {r : Int32} {h' : q_H} (C : q_C Γ cX12_sum RX12) (Rm : q_Rm Γ 2 5 109 0 0) {k9 : q_H → Nat → Option (Int32 × q_H)} (K : narrow .boolean (.int r) = .int r → q_K Γ cX12_sum .ireturn sz h' 0 0 [.int r]) (hk9 : ∀ (h : q_H) (x0 : Nat), k9 h x0 = some (r, h') → q_V Γ sz 0 0 h [(0, .ref x0)] [] 9) : ∀ (h : q_H) (x0 : Nat), m_X12_sum_27 k9 h x0 = some (r, h') → q_V Γ sz 0 0 h [(0, .ref x0)] [] 27 := by
  intro h x0 hm
  unfold m_X12_sum_27 at hm
  refine q_aload_n C (k4 := 0) 0 rfl (by decide +kernel) ?_
  refine q_getn C fl_12_7 hm (by decide +kernel) (fun v10 hm => ?_)
  refine q_aload_n C (k4 := 0) 0 rfl (by decide +kernel) ?_
  refine q_geti C fl_12_93 hm (by decide +kernel) (fun v11 hm => ?_)
  refine q_br C hm (by decide +kernel) (fun v12 hm => ?_)
  refine q_bipush C (n := 43) (v := 43) (by decide) (by decide +kernel) ?_
  refine q_icmp_ne C (off := 7) 45 hm (by decide +kernel) (by decide) (fun _ hm => ?_) (fun _ hm => ?_)
  · refine q_iconst C (n := 3) (v := 3) (by decide) (by decide +kernel) ?_
    exact v_X12_sum_46 C Rm K hk9 _ _ _ hm
  · refine q_iconst C (n := 2) (v := 2) (by decide) (by decide +kernel) ?_
    refine q_goto C (off := 4) 46 (by decide +kernel) (by decide) ?_
    exact v_X12_sum_46 C Rm K hk9 _ _ _ hm
def m_X12_sum_9  : Nat → q_H → Nat → Option (Int32 × q_H)
  | 0, _, _ => none
  | n + 1, h, x0 =>
    (q_ca 12 h x0 (m_X12_see h x0)).bind fun (r4, h5) =>
    if r4 = (43 : Int32) then
      m_X12_sum_27 (m_X12_sum_9 n) h5 x0
    else
      (q_ca 12 h5 x0 (m_X12_see h5 x0)).bind fun (r7, h8) =>
      if r7 = (45 : Int32) then
        m_X12_sum_27 (m_X12_sum_9 n) h8 x0
      else
        some ((1 : Int32), h8)
set_option maxRecDepth 20000 in
set_option maxHeartbeats 1000000 in
theorem v_X12_sum_9 {Γ : q_G} {sz : Nat} {r : Int32} {h' : q_H} (C : q_C Γ cX12_sum RX12) (Rm : q_Rm Γ 2 5 109 0 0)  (K : narrow .boolean (.int r) = .int r → q_K Γ cX12_sum .ireturn sz h' 0 0 [.int r])  : ∀ (n : Nat) (h : q_H) (x0 : Nat), m_X12_sum_9 n h x0 = some (r, h') → q_V Γ sz 0 0 h [(0, .ref x0)] [] 9 := by
  intro n
  induction n with
  | zero => intro h x0 hm; cases hm
  | succ n ih =>
    intro h x0 hm
    unfold m_X12_sum_9 at hm
    refine q_aload_n C (k4 := 0) 0 rfl (by decide +kernel) ?_
    refine q_viS C Rm (As := []) (rest := []) Y_X12_see Yv_X12_see ml_X12_96 (by decide) (by decide) hm (fun r4 h5 e9 => c_X12_see _ _ _ _ _ _ _ e9) rfl rfl (Nat.le_of_ble_eq_true rfl) (by decide +kernel) (fun r4 h5 hm z6 => ?_)
    refine q_bipush C (n := 43) (v := 43) (by decide) (by decide +kernel) ?_
    refine q_icmp_eq C (off := 12) 27 hm (by decide +kernel) (by decide) (fun _ hm => ?_) (fun _ hm => ?_)
    · exact v_X12_sum_27 C Rm K ih _ _ hm
    · refine q_aload_n C (k4 := 0) 0 rfl (by decide +kernel) ?_
      refine q_viS C Rm (As := []) (rest := []) Y_X12_see Yv_X12_see ml_X12_96 (by decide) (by decide) hm (fun r7 h8 e9 => c_X12_see _ _ _ _ _ _ _ e9) rfl rfl (Nat.le_of_ble_eq_true rfl) (by decide +kernel) (fun r7 h8 hm z9 => ?_)
      refine q_bipush C (n := 45) (v := 45) (by decide) (by decide +kernel) ?_
      refine q_icmp_ne C (off := 51) 75 hm (by decide +kernel) (by decide) (fun _ hm => ?_) (fun _ hm => ?_)
      · refine q_iconst C (n := 1) (v := 1) (by decide) (by decide +kernel) ?_
        exact q_riS hm K q_z1 (by decide +kernel)
      · exact v_X12_sum_27 C Rm K ih _ _ hm
def m_X12_sum (h : q_H) (a0 : Nat) : Option (Int32 × q_H) :=
  (q_ca 12 h a0 (m_X12_term h a0)).bind fun (r1, h2) =>
  if r1 = 0 then
    some ((0 : Int32), h2)
  else
    m_X12_sum_9 q_fu h2 a0
set_option maxRecDepth 20000 in
set_option maxHeartbeats 1000000 in
theorem c_X12_sum (l : Launch) (base : Nat) (D : va_G) (tc : Nat → ClassId) (sz : Nat) (h : q_H) (a0 : Nat) {r : Int32} {h' : q_H} (hm : m_X12_sum h a0 = some (r, h')) : q_M l yX12_sum cX12_sum 2 (some .boolean) 5 109 0 0 base D tc [.ref a0] sz h (some (.int r)) sz h' := by
  refine q_starti (by decide) (Nat.le_of_ble_eq_true rfl) (fun Γ B K => ?_)
  obtain ⟨C, Rm, -⟩ := B
  have C : q_C Γ cX12_sum RX12 := C
  show q_V Γ sz 0 0 h [(0, .ref a0)] [] 0
  unfold m_X12_sum at hm
  refine q_aload_n C (k4 := 0) 0 rfl (by decide +kernel) ?_
  refine q_viS C Rm (As := []) (rest := []) Y_X12_term Yv_X12_term ml_X12_181 (by decide) (by decide) hm (fun r1 h2 e9 => c_X12_term _ _ _ _ _ _ _ e9) rfl rfl (Nat.le_of_ble_eq_true rfl) (by decide +kernel) (fun r1 h2 hm z3 => ?_)
  refine q_if_ne C (off := 5) 9 hm (by decide +kernel) (by decide) (fun _ hm => ?_) (fun _ hm => ?_)
  · exact v_X12_sum_9 C Rm K _ _ _ hm
  · refine q_iconst C (n := 0) (v := 0) (by decide) (by decide +kernel) ?_
    exact q_riS hm K q_z0 (by decide +kernel)
def m_X12_compare_152  (h : q_H) (x0 : Nat) (s0 : Int32) : Option (Int32 × q_H) :=
  (q_ca 12 h x0 (m_X12_sum h x0)).bind fun (r23, h24) =>
  if r23 = 0 then
    some ((0 : Int32), h24)
  else
    (q_ca 12 h24 x0 (m_X12_puts h24 x0 (((6 : Int32) + s0)) ((0 : Int32)))).bind fun h27 =>
    some ((1 : Int32), h27)
set_option maxRecDepth 20000 in
set_option maxHeartbeats 1000000 in
theorem v_X12_compare_152 {Γ : q_G} {sz : Nat} {r : Int32} {h' : q_H} (C : q_C Γ cX12_compare RX12) (Rm : q_Rm Γ 5 6 130 0 0)  (K : narrow .boolean (.int r) = .int r → q_K Γ cX12_compare .ireturn sz h' 0 0 [.int r])  : ∀ (h : q_H) (x0 : Nat) (s0 : Int32), m_X12_compare_152 h x0 s0 = some (r, h') → q_V Γ sz 0 0 h [(0, .ref x0)] [.int s0] 152 := by
  intro h x0 s0 hm
  unfold m_X12_compare_152 at hm
  refine q_istore C Rm.1 (i := 4) (lv' := [(4, .int s0), (0, .ref x0)]) rfl (by decide) (by decide +kernel) ?_
  refine q_aload_n C (k4 := 0) 1 rfl (by decide +kernel) ?_
  refine q_viS C Rm (As := []) (rest := []) Y_X12_sum Yv_X12_sum ml_X12_184 (by decide) (by decide) hm (fun r23 h24 e9 => c_X12_sum _ _ _ _ _ _ _ e9) rfl rfl (Nat.le_of_ble_eq_true rfl) (by decide +kernel) (fun r23 h24 hm z25 => ?_)
  refine q_if_ne C (off := 5) 163 hm (by decide +kernel) (by decide) (fun _ hm => ?_) (fun _ hm => ?_)
  · refine q_aload_n C (k4 := 0) 1 rfl (by decide +kernel) ?_
    refine q_bipush C (n := 6) (v := 6) (by decide) (by decide +kernel) ?_
    refine q_iload C (i := 4) 0 rfl (by decide +kernel) ?_
    refine q_iadd C (by decide +kernel) ?_
    refine q_iconst C (n := 0) (v := 0) (by decide) (by decide +kernel) ?_
    refine q_vvS C Rm (As := [.int (((6 : Int32) + s0)), .int ((0 : Int32))]) (rest := []) Y_X12_puts Yv_X12_puts ml_X12_163 (by decide) (by decide) hm (fun h27 e9 => c_X12_puts _ _ _ _ _ _ _ _ _ e9) rfl rfl (Nat.le_of_ble_eq_true rfl) (by decide +kernel) (fun h27 hm => ?_)
    refine q_iconst C (n := 1) (v := 1) (by decide) (by decide +kernel) ?_
    exact q_riS hm K q_z1 (by decide +kernel)
  · refine q_iconst C (n := 0) (v := 0) (by decide) (by decide +kernel) ?_
    exact q_riS hm K q_z0 (by decide +kernel)
def m_X12_compare_105  (h : q_H) (x0 : Nat) (x1 : Int32) (x2 : Int32) (x3 : Int32) : Option (Int32 × q_H) :=
  (q_ca 12 h x0 (m_X12_makes h x0 x2)).bind fun (r20, h21) =>
  if r20 = 0 then
    some ((0 : Int32), h21)
  else
    if x1 = (60 : Int32) then
      if x3 = 0 then
        m_X12_compare_152 h21 x0 ((0 : Int32))
      else
        m_X12_compare_152 h21 x0 ((1 : Int32))
    else
      if x1 = (61 : Int32) then
        m_X12_compare_152 h21 x0 ((2 : Int32))
      else
        if x3 = 0 then
          m_X12_compare_152 h21 x0 ((4 : Int32))
        else
          m_X12_compare_152 h21 x0 ((3 : Int32))
set_option maxRecDepth 20000 in
set_option maxHeartbeats 1000000 in
theorem v_X12_compare_105 {Γ : q_G} {sz : Nat} {r : Int32} {h' : q_H} (C : q_C Γ cX12_compare RX12) (Rm : q_Rm Γ 5 6 130 0 0)  (K : narrow .boolean (.int r) = .int r → q_K Γ cX12_compare .ireturn sz h' 0 0 [.int r])  : ∀ (h : q_H) (x0 : Nat) (x1 : Int32) (x2 : Int32) (x3 : Int32), m_X12_compare_105 h x0 x1 x2 x3 = some (r, h') → q_V Γ sz 0 0 h [(0, .ref x0), (1, .int x1), (2, .int x2), (3, .int x3)] [] 105 := by
  intro h x0 x1 x2 x3 hm
  unfold m_X12_compare_105 at hm
  refine q_aload_n C (k4 := 0) 0 rfl (by decide +kernel) ?_
  refine q_iload_n C (k4 := 2) 2 rfl (by decide +kernel) ?_
  refine q_viS C Rm (As := [.int x2]) (rest := []) Y_X12_makes Yv_X12_makes ml_X12_171 (by decide) (by decide) hm (fun r20 h21 e9 => c_X12_makes _ _ _ _ _ _ _ _ e9) rfl rfl (Nat.le_of_ble_eq_true rfl) (by decide +kernel) (fun r20 h21 hm z22 => ?_)
  refine q_if_ne C (off := 5) 115 hm (by decide +kernel) (by decide) (fun _ hm => ?_) (fun _ hm => ?_)
  · refine q_iload_n C (k4 := 1) 1 rfl (by decide +kernel) ?_
    refine q_bipush C (n := 60) (v := 60) (by decide) (by decide +kernel) ?_
    refine q_icmp_ne C (off := 15) 133 hm (by decide +kernel) (by decide) (fun _ hm => ?_) (fun _ hm => ?_)
    · refine q_iload_n C (k4 := 1) 1 rfl (by decide +kernel) ?_
      refine q_bipush C (n := 61) (v := 61) (by decide) (by decide +kernel) ?_
      refine q_icmp_ne C (off := 7) 143 hm (by decide +kernel) (by decide) (fun _ hm => ?_) (fun _ hm => ?_)
      · refine q_iload_n C (k4 := 3) 3 rfl (by decide +kernel) ?_
        refine q_if_eq C (off := 7) 151 hm (by decide +kernel) (by decide) (fun _ hm => ?_) (fun _ hm => ?_)
        · refine q_iconst C (n := 4) (v := 4) (by decide) (by decide +kernel) ?_
          refine q_loc [0] rfl ?_
          exact v_X12_compare_152 C Rm K _ _ _ hm
        · refine q_iconst C (n := 3) (v := 3) (by decide) (by decide +kernel) ?_
          refine q_goto C (off := 4) 152 (by decide +kernel) (by decide) ?_
          refine q_loc [0] rfl ?_
          exact v_X12_compare_152 C Rm K _ _ _ hm
      · refine q_iconst C (n := 2) (v := 2) (by decide) (by decide +kernel) ?_
        refine q_goto C (off := 12) 152 (by decide +kernel) (by decide) ?_
        refine q_loc [0] rfl ?_
        exact v_X12_compare_152 C Rm K _ _ _ hm
    · refine q_iload_n C (k4 := 3) 3 rfl (by decide +kernel) ?_
      refine q_if_eq C (off := 7) 129 hm (by decide +kernel) (by decide) (fun _ hm => ?_) (fun _ hm => ?_)
      · refine q_iconst C (n := 0) (v := 0) (by decide) (by decide +kernel) ?_
        refine q_goto C (off := 22) 152 (by decide +kernel) (by decide) ?_
        refine q_loc [0] rfl ?_
        exact v_X12_compare_152 C Rm K _ _ _ hm
      · refine q_iconst C (n := 1) (v := 1) (by decide) (by decide +kernel) ?_
        refine q_goto C (off := 26) 152 (by decide +kernel) (by decide) ?_
        refine q_loc [0] rfl ?_
        exact v_X12_compare_152 C Rm K _ _ _ hm
  · refine q_iconst C (n := 0) (v := 0) (by decide) (by decide +kernel) ?_
    exact q_riS hm K q_z0 (by decide +kernel)
def m_X12_compare_90  (h : q_H) (x0 : Nat) (x1 : Int32) (x2 : Int32) (s0 : Int32) : Option (Int32 × q_H) :=
  if s0 = 0 then
    m_X12_compare_105 h x0 x1 x2 s0
  else
    (q_gi h x0 12 8).bind fun v18 =>
    (q_pf h x0 12 8 (.int ((v18 + (1 : Int32))))).bind fun h19 =>
    m_X12_compare_105 h19 x0 x1 x2 s0
set_option maxRecDepth 20000 in
set_option maxHeartbeats 1000000 in
theorem v_X12_compare_90 {Γ : q_G} {sz : Nat} {r : Int32} {h' : q_H} (C : q_C Γ cX12_compare RX12) (Rm : q_Rm Γ 5 6 130 0 0)  (K : narrow .boolean (.int r) = .int r → q_K Γ cX12_compare .ireturn sz h' 0 0 [.int r])  : ∀ (h : q_H) (x0 : Nat) (x1 : Int32) (x2 : Int32) (s0 : Int32), m_X12_compare_90 h x0 x1 x2 s0 = some (r, h') → q_V Γ sz 0 0 h [(0, .ref x0), (1, .int x1), (2, .int x2)] [.int s0] 90 := by
  intro h x0 x1 x2 s0 hm
  unfold m_X12_compare_90 at hm
  refine q_istore_n C Rm.1 (k4 := 3) (i := 3) rfl (lv' := [(3, .int s0), (0, .ref x0), (1, .int x1), (2, .int x2)]) rfl (by decide) (by decide +kernel) ?_
  refine q_iload_n C (k4 := 3) 0 rfl (by decide +kernel) ?_
  refine q_if_eq C (off := 13) 105 hm (by decide +kernel) (by decide) (fun _ hm => ?_) (fun _ hm => ?_)
  · refine q_loc [1, 2, 3, 0] rfl ?_
    exact v_X12_compare_105 C Rm K _ _ _ _ _ hm
  · refine q_aload_n C (k4 := 0) 1 rfl (by decide +kernel) ?_
    refine q_dup C rfl (by decide +kernel) ?_
    refine q_geti C fl_12_93 hm (by decide +kernel) (fun v18 hm => ?_)
    refine q_iconst C (n := 1) (v := 1) (by decide) (by decide +kernel) ?_
    refine q_iadd C (by decide +kernel) ?_
    refine q_putf C fl_12_93 hm rfl rfl (by decide +kernel) (fun h19 hm => ?_)
    refine q_loc [1, 2, 3, 0] rfl ?_
    exact v_X12_compare_105 C Rm K _ _ _ _ _ hm
def m_X12_compare_89  (h : q_H) (x0 : Nat) (x1 : Int32) (x2 : Int32) : Option (Int32 × q_H) :=
  m_X12_compare_90 h x0 x1 x2 ((0 : Int32))
set_option maxRecDepth 20000 in
set_option maxHeartbeats 1000000 in
theorem v_X12_compare_89 {Γ : q_G} {sz : Nat} {r : Int32} {h' : q_H} (C : q_C Γ cX12_compare RX12) (Rm : q_Rm Γ 5 6 130 0 0)  (K : narrow .boolean (.int r) = .int r → q_K Γ cX12_compare .ireturn sz h' 0 0 [.int r])  : ∀ (h : q_H) (x0 : Nat) (x1 : Int32) (x2 : Int32), m_X12_compare_89 h x0 x1 x2 = some (r, h') → q_V Γ sz 0 0 h [(0, .ref x0), (1, .int x1), (2, .int x2)] [] 89 := by
  intro h x0 x1 x2 hm
  unfold m_X12_compare_89 at hm
  refine q_iconst C (n := 0) (v := 0) (by decide) (by decide +kernel) ?_
  exact v_X12_compare_90 C Rm K _ _ _ _ _ hm
def m_X12_compare_44  (h : q_H) (x0 : Nat) (x1 : Int32) (x2 : Int32) : Option (Int32 × q_H) :=
  (q_gi h x0 12 8).bind fun v11 =>
  (q_pf h x0 12 8 (.int ((v11 + (1 : Int32))))).bind fun h12 =>
  if x1 = (61 : Int32) then
    m_X12_compare_89 h12 x0 x1 x2
  else
    (q_gi h12 x0 12 8).bind fun v13 =>
    (q_gi h12 x0 12 1).bind fun v14 =>
    if v14 ≤ v13 then
      m_X12_compare_89 h12 x0 x1 x2
    else
      (q_gn h12 x0 12 0).bind fun v15 =>
      (q_gi h12 x0 12 8).bind fun v16 =>
      (q_ai h12 v15 0 v16).bind fun v17 =>
      if v17 = (61 : Int32) then
        m_X12_compare_90 h12 x0 x1 x2 ((1 : Int32))
      else
        m_X12_compare_89 h12 x0 x1 x2
set_option maxRecDepth 20000 in
set_option maxHeartbeats 1000000 in
theorem v_X12_compare_44 {Γ : q_G} {sz : Nat} {r : Int32} {h' : q_H} (C : q_C Γ cX12_compare RX12) (Rm : q_Rm Γ 5 6 130 0 0)  (K : narrow .boolean (.int r) = .int r → q_K Γ cX12_compare .ireturn sz h' 0 0 [.int r])  : ∀ (h : q_H) (x0 : Nat) (x1 : Int32) (x2 : Int32), m_X12_compare_44 h x0 x1 x2 = some (r, h') → q_V Γ sz 0 0 h [(0, .ref x0), (1, .int x1), (2, .int x2)] [] 44 := by
  intro h x0 x1 x2 hm
  unfold m_X12_compare_44 at hm
  refine q_aload_n C (k4 := 0) 0 rfl (by decide +kernel) ?_
  refine q_dup C rfl (by decide +kernel) ?_
  refine q_geti C fl_12_93 hm (by decide +kernel) (fun v11 hm => ?_)
  refine q_iconst C (n := 1) (v := 1) (by decide) (by decide +kernel) ?_
  refine q_iadd C (by decide +kernel) ?_
  refine q_putf C fl_12_93 hm rfl rfl (by decide +kernel) (fun h12 hm => ?_)
  refine q_iload_n C (k4 := 1) 1 rfl (by decide +kernel) ?_
  refine q_bipush C (n := 61) (v := 61) (by decide) (by decide +kernel) ?_
  refine q_icmp_eq C (off := 32) 89 hm (by decide +kernel) (by decide) (fun _ hm => ?_) (fun _ hm => ?_)
  · exact v_X12_compare_89 C Rm K _ _ _ _ hm
  · refine q_aload_n C (k4 := 0) 0 rfl (by decide +kernel) ?_
    refine q_geti C fl_12_93 hm (by decide +kernel) (fun v13 hm => ?_)
    refine q_aload_n C (k4 := 0) 0 rfl (by decide +kernel) ?_
    refine q_geti C fl_12_83 hm (by decide +kernel) (fun v14 hm => ?_)
    refine q_icmp_ge C (off := 21) 89 hm (by decide +kernel) (by decide) (fun _ hm => ?_) (fun _ hm => ?_)
    · exact v_X12_compare_89 C Rm K _ _ _ _ hm
    · refine q_aload_n C (k4 := 0) 0 rfl (by decide +kernel) ?_
      refine q_getn C fl_12_7 hm (by decide +kernel) (fun v15 hm => ?_)
      refine q_aload_n C (k4 := 0) 0 rfl (by decide +kernel) ?_
      refine q_geti C fl_12_93 hm (by decide +kernel) (fun v16 hm => ?_)
      refine q_br C hm (by decide +kernel) (fun v17 hm => ?_)
      refine q_bipush C (n := 61) (v := 61) (by decide) (by decide +kernel) ?_
      refine q_icmp_ne C (off := 7) 89 hm (by decide +kernel) (by decide) (fun _ hm => ?_) (fun _ hm => ?_)
      · exact v_X12_compare_89 C Rm K _ _ _ _ hm
      · refine q_iconst C (n := 1) (v := 1) (by decide) (by decide +kernel) ?_
        refine q_goto C (off := 4) 90 (by decide +kernel) (by decide) ?_
        exact v_X12_compare_90 C Rm K _ _ _ _ _ hm
def m_X12_compare (h : q_H) (a0 : Nat) : Option (Int32 × q_H) :=
  (q_ca 12 h a0 (m_X12_sum h a0)).bind fun (r1, h2) =>
  if r1 = 0 then
    some ((0 : Int32), h2)
  else
    (q_ca 12 h2 a0 (m_X12_see h2 a0)).bind fun (r4, h5) =>
    (q_gi h5 a0 12 8).bind fun v7 =>
    if r4 = (60 : Int32) then
      m_X12_compare_44 h5 a0 r4 v7
    else
      if r4 = (61 : Int32) then
        m_X12_compare_44 h5 a0 r4 v7
      else
        if r4 = (62 : Int32) then
          m_X12_compare_44 h5 a0 r4 v7
        else
          (q_ca 12 h5 a0 (m_X12_fails h5 a0 ((0 : Int32)) v7)).bind fun (r8, h9) =>
          some (r8, h9)
set_option maxRecDepth 20000 in
set_option maxHeartbeats 1000000 in
theorem c_X12_compare (l : Launch) (base : Nat) (D : va_G) (tc : Nat → ClassId) (sz : Nat) (h : q_H) (a0 : Nat) {r : Int32} {h' : q_H} (hm : m_X12_compare h a0 = some (r, h')) : q_M l yX12_compare cX12_compare 5 (some .boolean) 6 130 0 0 base D tc [.ref a0] sz h (some (.int r)) sz h' := by
  refine q_starti (by decide) (Nat.le_of_ble_eq_true rfl) (fun Γ B K => ?_)
  obtain ⟨C, Rm, -⟩ := B
  have C : q_C Γ cX12_compare RX12 := C
  show q_V Γ sz 0 0 h [(0, .ref a0)] [] 0
  unfold m_X12_compare at hm
  refine q_aload_n C (k4 := 0) 0 rfl (by decide +kernel) ?_
  refine q_viS C Rm (As := []) (rest := []) Y_X12_sum Yv_X12_sum ml_X12_184 (by decide) (by decide) hm (fun r1 h2 e9 => c_X12_sum _ _ _ _ _ _ _ e9) rfl rfl (Nat.le_of_ble_eq_true rfl) (by decide +kernel) (fun r1 h2 hm z3 => ?_)
  refine q_if_ne C (off := 5) 9 hm (by decide +kernel) (by decide) (fun _ hm => ?_) (fun _ hm => ?_)
  · refine q_aload_n C (k4 := 0) 0 rfl (by decide +kernel) ?_
    refine q_viS C Rm (As := []) (rest := []) Y_X12_see Yv_X12_see ml_X12_96 (by decide) (by decide) hm (fun r4 h5 e9 => c_X12_see _ _ _ _ _ _ _ e9) rfl rfl (Nat.le_of_ble_eq_true rfl) (by decide +kernel) (fun r4 h5 hm z6 => ?_)
    refine q_istore_n C Rm.1 (k4 := 1) (i := 1) rfl (lv' := [(1, .int r4), (0, .ref a0)]) rfl (by decide) (by decide +kernel) ?_
    refine q_aload_n C (k4 := 0) 1 rfl (by decide +kernel) ?_
    refine q_geti C fl_12_93 hm (by decide +kernel) (fun v7 hm => ?_)
    refine q_istore_n C Rm.1 (k4 := 2) (i := 2) rfl (lv' := [(2, .int v7), (1, .int r4), (0, .ref a0)]) rfl (by decide) (by decide +kernel) ?_
    refine q_iload_n C (k4 := 1) 1 rfl (by decide +kernel) ?_
    refine q_bipush C (n := 60) (v := 60) (by decide) (by decide +kernel) ?_
    refine q_icmp_eq C (off := 22) 44 hm (by decide +kernel) (by decide) (fun _ hm => ?_) (fun _ hm => ?_)
    · refine q_loc [2, 1, 0] rfl ?_
      exact v_X12_compare_44 C Rm K _ _ _ _ hm
    · refine q_iload_n C (k4 := 1) 1 rfl (by decide +kernel) ?_
      refine q_bipush C (n := 61) (v := 61) (by decide) (by decide +kernel) ?_
      refine q_icmp_eq C (off := 16) 44 hm (by decide +kernel) (by decide) (fun _ hm => ?_) (fun _ hm => ?_)
      · refine q_loc [2, 1, 0] rfl ?_
        exact v_X12_compare_44 C Rm K _ _ _ _ hm
      · refine q_iload_n C (k4 := 1) 1 rfl (by decide +kernel) ?_
        refine q_bipush C (n := 62) (v := 62) (by decide) (by decide +kernel) ?_
        refine q_icmp_eq C (off := 10) 44 hm (by decide +kernel) (by decide) (fun _ hm => ?_) (fun _ hm => ?_)
        · refine q_loc [2, 1, 0] rfl ?_
          exact v_X12_compare_44 C Rm K _ _ _ _ hm
        · refine q_aload_n C (k4 := 0) 2 rfl (by decide +kernel) ?_
          refine q_iconst C (n := 0) (v := 0) (by decide) (by decide +kernel) ?_
          refine q_iload_n C (k4 := 2) 0 rfl (by decide +kernel) ?_
          refine q_viS C Rm (As := [.int ((0 : Int32)), .int v7]) (rest := []) Y_X12_fails Yv_X12_fails ml_X12_114 (by decide) (by decide) hm (fun r8 h9 e9 => c_X12_fails _ _ _ _ _ _ _ _ _ e9) rfl rfl (Nat.le_of_ble_eq_true rfl) (by decide +kernel) (fun r8 h9 hm z10 => ?_)
          exact q_riS hm K z10 (by decide +kernel)
  · refine q_iconst C (n := 0) (v := 0) (by decide) (by decide +kernel) ?_
    exact q_riS hm K q_z0 (by decide +kernel)
