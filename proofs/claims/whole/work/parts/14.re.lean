def m_X12_rests_117 (k87 : q_H → Nat → Int32 → Int32 → Int32 → Int32 → Option (Int32 × q_H)) (h : q_H) (x0 : Nat) (x4 : Int32) (x5 : Int32) (x6 : Int32) (x7 : Int32) : Option (Int32 × q_H) :=
  k87 h x0 x4 x5 x6 ((x7 + (-1 : Int32)))
set_option maxRecDepth 20000 in
set_option maxHeartbeats 1000000 in
theorem v_X12_rests_117 {Γ : q_G} {sz : Nat} {r : Int32} {h' : q_H} (C : q_C Γ cX12_rests RX12) (Rm : q_Rm Γ 8 8 190 0 0) {k87 : q_H → Nat → Int32 → Int32 → Int32 → Int32 → Option (Int32 × q_H)} (K : narrow .int (.int r) = .int r → q_K Γ cX12_rests .ireturn sz h' 0 0 [.int r]) (hk87 : ∀ (h : q_H) (x0 : Nat) (x4 : Int32) (x5 : Int32) (x6 : Int32) (x7 : Int32), k87 h x0 x4 x5 x6 x7 = some (r, h') → q_V Γ sz 0 0 h [(0, .ref x0), (4, .int x4), (5, .int x5), (6, .int x6), (7, .int x7)] [] 87) : ∀ (h : q_H) (x0 : Nat) (x4 : Int32) (x5 : Int32) (x6 : Int32) (x7 : Int32), m_X12_rests_117 k87 h x0 x4 x5 x6 x7 = some (r, h') → q_V Γ sz 0 0 h [(0, .ref x0), (4, .int x4), (5, .int x5), (6, .int x6), (7, .int x7)] [] 117 := by
  intro h x0 x4 x5 x6 x7 hm
  unfold m_X12_rests_117 at hm
  refine q_iinc C Rm.1 (i := 7) (n := (-1)) (v := (x7 + (-1 : Int32))) 4 rfl (q_inc _ (by decide)) (lv' := [(7, .int ((x7 + (-1 : Int32)))), (0, .ref x0), (4, .int x4), (5, .int x5), (6, .int x6)]) rfl (by decide) (by decide +kernel) ?_
  refine q_goto C (off := -33) 87 (by decide +kernel) (by decide) ?_
  refine q_loc [1, 2, 3, 4, 0] rfl ?_
  exact hk87 _ _ _ _ _ _ hm
def m_X12_rests_87  : Nat → q_H → Nat → Int32 → Int32 → Int32 → Int32 → Option (Int32 × q_H)
  | 0, _, _, _, _, _, _ => none
  | n + 1, h, x0, x4, x5, x6, x7 =>
    if x7 < 0 then
      if x4 = 0 then
        some (x5, h)
      else
        if 0 ≤ x6 then
          if x4 = (1 : Int32) then
            some ((x6 / (4 : Int32)), h)
          else
            some ((q_rmi x6 ((4 : Int32))), h)
        else
          some ((-2 : Int32), h)
    else
      (q_ca 12 h x0 (m_X12_isRest h x0 ((x7 / (4 : Int32))) ((q_rmi x7 ((4 : Int32)))))).bind fun r13 =>
      if r13 = 0 then
        m_X12_rests_117 (m_X12_rests_87 n) h x0 x4 x5 x6 x7
      else
        m_X12_rests_117 (m_X12_rests_87 n) h x0 x4 ((x5 + (1 : Int32))) x7 x7
set_option maxRecDepth 20000 in
set_option maxHeartbeats 1000000 in
theorem v_X12_rests_87 {Γ : q_G} {sz : Nat} {r : Int32} {h' : q_H} (C : q_C Γ cX12_rests RX12) (Rm : q_Rm Γ 8 8 190 0 0)  (K : narrow .int (.int r) = .int r → q_K Γ cX12_rests .ireturn sz h' 0 0 [.int r])  : ∀ (n : Nat) (h : q_H) (x0 : Nat) (x4 : Int32) (x5 : Int32) (x6 : Int32) (x7 : Int32), m_X12_rests_87 n h x0 x4 x5 x6 x7 = some (r, h') → q_V Γ sz 0 0 h [(0, .ref x0), (4, .int x4), (5, .int x5), (6, .int x6), (7, .int x7)] [] 87 := by
  intro n
  induction n with
  | zero => intro h x0 x4 x5 x6 x7 hm; cases hm
  | succ n ih =>
    intro h x0 x4 x5 x6 x7 hm
    unfold m_X12_rests_87 at hm
    refine q_iload C (i := 7) 4 rfl (by decide +kernel) ?_
    refine q_if_lt C (off := 34) 123 hm (by decide +kernel) (by decide) (fun _ hm => ?_) (fun _ hm => ?_)
    · refine q_iload C (i := 4) 1 rfl (by decide +kernel) ?_
      refine q_if_ne C (off := 6) 131 hm (by decide +kernel) (by decide) (fun _ hm => ?_) (fun _ hm => ?_)
      · refine q_iload C (i := 6) 3 rfl (by decide +kernel) ?_
        refine q_if_ge C (off := 8) 141 hm (by decide +kernel) (by decide) (fun _ hm => ?_) (fun _ hm => ?_)
        · refine q_iload C (i := 4) 1 rfl (by decide +kernel) ?_
          refine q_iconst C (n := 1) (v := 1) (by decide) (by decide +kernel) ?_
          refine q_icmp_ne C (off := 10) 154 hm (by decide +kernel) (by decide) (fun _ hm => ?_) (fun _ hm => ?_)
          · refine q_iload C (i := 6) 3 rfl (by decide +kernel) ?_
            refine q_iconst C (n := 4) (v := 4) (by decide) (by decide +kernel) ?_
            refine q_irem C (by decide) (by decide +kernel) ?_
            exact q_riS hm K rfl (by decide +kernel)
          · refine q_iload C (i := 6) 3 rfl (by decide +kernel) ?_
            refine q_iconst C (n := 4) (v := 4) (by decide) (by decide +kernel) ?_
            refine q_idiv C (by decide) (by decide +kernel) ?_
            refine q_goto C (off := 7) 158 (by decide +kernel) (by decide) ?_
            exact q_riS hm K rfl (by decide +kernel)
        · refine q_bipush C (n := (-2)) (v := (-2)) (by decide) (by decide +kernel) ?_
          refine q_goto C (off := 20) 158 (by decide +kernel) (by decide) ?_
          exact q_riS hm K rfl (by decide +kernel)
      · refine q_iload C (i := 5) 2 rfl (by decide +kernel) ?_
        exact q_riS hm K rfl (by decide +kernel)
    · refine q_aload_n C (k4 := 0) 0 rfl (by decide +kernel) ?_
      refine q_iload C (i := 7) 4 rfl (by decide +kernel) ?_
      refine q_iconst C (n := 4) (v := 4) (by decide) (by decide +kernel) ?_
      refine q_idiv C (by decide) (by decide +kernel) ?_
      refine q_iload C (i := 7) 4 rfl (by decide +kernel) ?_
      refine q_iconst C (n := 4) (v := 4) (by decide) (by decide +kernel) ?_
      refine q_irem C (by decide) (by decide +kernel) ?_
      refine q_viP C Rm (As := [.int ((x7 / (4 : Int32))), .int ((q_rmi x7 ((4 : Int32))))]) (rest := []) Y_X12_isRest Yv_X12_isRest ml_X12_414 (by decide) (by decide) hm (fun r9 e9 => c_X12_isRest _ _ _ _ _ _ _ _ _ e9) rfl rfl (Nat.le_of_ble_eq_true rfl) (by decide +kernel) (fun r13 hm z14 => ?_)
      refine q_if_ne C (off := 6) 110 hm (by decide +kernel) (by decide) (fun _ hm => ?_) (fun _ hm => ?_)
      · refine q_iload C (i := 7) 4 rfl (by decide +kernel) ?_
        refine q_istore C Rm.1 (i := 6) (lv' := [(6, .int x7), (0, .ref x0), (4, .int x4), (5, .int x5), (7, .int x7)]) rfl (by decide) (by decide +kernel) ?_
        refine q_iinc C Rm.1 (i := 5) (n := 1) (v := (x5 + (1 : Int32))) 3 rfl (q_inc _ (by decide)) (lv' := [(5, .int ((x5 + (1 : Int32)))), (6, .int x7), (0, .ref x0), (4, .int x4), (7, .int x7)]) rfl (by decide) (by decide +kernel) ?_
        refine q_loc [2, 3, 0, 1, 4] rfl ?_
        exact v_X12_rests_117 C Rm K ih _ _ _ _ _ _ hm
      · refine q_goto C (off := 10) 117 (by decide +kernel) (by decide) ?_
        exact v_X12_rests_117 C Rm K ih _ _ _ _ _ _ hm
def m_X12_rests_55  : Nat → q_H → Nat → Int32 → Int32 → Int32 → Int32 → Int32 → Option (Int32 × q_H)
  | 0, _, _, _, _, _, _, _ => none
  | n + 1, h, x0, x1, x2, x3, x4, x5 =>
    if (16 : Int32) ≤ x5 then
      m_X12_rests_87 q_fu h x0 x4 ((0 : Int32)) ((-1 : Int32)) ((15 : Int32))
    else
      (q_ca 12 h x0 (m_X12_fillsRest h x0 x1 x2 x5 x3)).bind fun h12 =>
      m_X12_rests_55 n h12 x0 x1 x2 x3 x4 ((x5 + (1 : Int32)))
set_option maxRecDepth 20000 in
set_option maxHeartbeats 1000000 in
theorem v_X12_rests_55 {Γ : q_G} {sz : Nat} {r : Int32} {h' : q_H} (C : q_C Γ cX12_rests RX12) (Rm : q_Rm Γ 8 8 190 0 0)  (K : narrow .int (.int r) = .int r → q_K Γ cX12_rests .ireturn sz h' 0 0 [.int r])  : ∀ (n : Nat) (h : q_H) (x0 : Nat) (x1 : Int32) (x2 : Int32) (x3 : Int32) (x4 : Int32) (x5 : Int32), m_X12_rests_55 n h x0 x1 x2 x3 x4 x5 = some (r, h') → q_V Γ sz 0 0 h [(0, .ref x0), (1, .int x1), (2, .int x2), (3, .int x3), (4, .int x4), (5, .int x5)] [] 55 := by
  intro n
  induction n with
  | zero => intro h x0 x1 x2 x3 x4 x5 hm; cases hm
  | succ n ih =>
    intro h x0 x1 x2 x3 x4 x5 hm
    unfold m_X12_rests_55 at hm
    refine q_iload C (i := 5) 5 rfl (by decide +kernel) ?_
    refine q_bipush C (n := 16) (v := 16) (by decide) (by decide +kernel) ?_
    refine q_icmp_ge C (off := 18) 77 hm (by decide +kernel) (by decide) (fun _ hm => ?_) (fun _ hm => ?_)
    · refine q_iconst C (n := 0) (v := 0) (by decide) (by decide +kernel) ?_
      refine q_istore C Rm.1 (i := 5) (lv' := [(5, .int ((0 : Int32))), (0, .ref x0), (1, .int x1), (2, .int x2), (3, .int x3), (4, .int x4)]) rfl (by decide) (by decide +kernel) ?_
      refine q_iconst C (n := (-1)) (v := (-1)) (by decide) (by decide +kernel) ?_
      refine q_istore C Rm.1 (i := 6) (lv' := [(6, .int ((-1 : Int32))), (5, .int ((0 : Int32))), (0, .ref x0), (1, .int x1), (2, .int x2), (3, .int x3), (4, .int x4)]) rfl (by decide) (by decide +kernel) ?_
      refine q_bipush C (n := 15) (v := 15) (by decide) (by decide +kernel) ?_
      refine q_istore C Rm.1 (i := 7) (lv' := [(7, .int ((15 : Int32))), (6, .int ((-1 : Int32))), (5, .int ((0 : Int32))), (0, .ref x0), (1, .int x1), (2, .int x2), (3, .int x3), (4, .int x4)]) rfl (by decide) (by decide +kernel) ?_
      refine q_loc [3, 7, 2, 1, 0] rfl ?_
      exact v_X12_rests_87 C Rm K _ _ _ _ _ _ _ hm
    · refine q_aload_n C (k4 := 0) 0 rfl (by decide +kernel) ?_
      refine q_iload_n C (k4 := 1) 1 rfl (by decide +kernel) ?_
      refine q_iload_n C (k4 := 2) 2 rfl (by decide +kernel) ?_
      refine q_iload C (i := 5) 5 rfl (by decide +kernel) ?_
      refine q_iload_n C (k4 := 3) 3 rfl (by decide +kernel) ?_
      refine q_vvS C Rm (As := [.int x1, .int x2, .int x5, .int x3]) (rest := []) Y_X12_fillsRest Yv_X12_fillsRest ml_X12_410 (by decide) (by decide) hm (fun h12 e9 => c_X12_fillsRest _ _ _ _ _ _ _ _ _ _ _ e9) rfl rfl (Nat.le_of_ble_eq_true rfl) (by decide +kernel) (fun h12 hm => ?_)
      refine q_iinc C Rm.1 (i := 5) (n := 1) (v := (x5 + (1 : Int32))) 5 rfl (q_inc _ (by decide)) (lv' := [(5, .int ((x5 + (1 : Int32)))), (0, .ref x0), (1, .int x1), (2, .int x2), (3, .int x3), (4, .int x4)]) rfl (by decide) (by decide +kernel) ?_
      refine q_goto C (off := -19) 55 (by decide +kernel) (by decide) ?_
      refine q_loc [1, 2, 3, 4, 5, 0] rfl ?_
      exact ih _ _ _ _ _ _ _ hm
def m_X12_rests (h : q_H) (a0 : Nat) (a1 : Int32) (a2 : Int32) (a3 : Int32) (a4 : Int32) : Option (Int32 × q_H) :=
  (q_ca 12 h a0 (m_X12_isPuller h a0 a1)).bind fun r1 =>
  if r1 = 0 then
    some ((-1 : Int32), h)
  else
    (q_ca 12 h a0 (m_X12_isPuller h a0 a2)).bind fun r3 =>
    if r3 = 0 then
      some ((-1 : Int32), h)
    else
      if a1 = a2 then
        some ((-1 : Int32), h)
      else
        (m_X12_in a3.toInt64 ((1 : Int64)) ((20 : Int64))).bind fun r5 =>
        if r5 = 0 then
          some ((-1 : Int32), h)
        else
          (m_X12_in a4.toInt64 ((0 : Int64)) ((2 : Int64))).bind fun r7 =>
          if r7 = 0 then
            some ((-1 : Int32), h)
          else
            (q_ca 12 h a0 (m_X12_keeps h a0)).bind fun h10 =>
            m_X12_rests_55 q_fu h10 a0 a1 a2 a3 a4 ((0 : Int32))
set_option maxRecDepth 20000 in
set_option maxHeartbeats 1000000 in
theorem c_X12_rests (l : Launch) (base : Nat) (D : va_G) (tc : Nat → ClassId) (sz : Nat) (h : q_H) (a0 : Nat) (a1 : Int32) (a2 : Int32) (a3 : Int32) (a4 : Int32) {r : Int32} {h' : q_H} (hm : m_X12_rests h a0 a1 a2 a3 a4 = some (r, h')) : q_M l yX12_rests cX12_rests 8 (some .int) 8 190 0 0 base D tc [.ref a0, .int a1, .int a2, .int a3, .int a4] sz h (some (.int r)) sz h' := by
  refine q_starti (by decide) (Nat.le_of_ble_eq_true rfl) (fun Γ B K => ?_)
  obtain ⟨C, Rm, -⟩ := B
  have C : q_C Γ cX12_rests RX12 := C
  show q_V Γ sz 0 0 h [(0, .ref a0), (1, .int a1), (2, .int a2), (3, .int a3), (4, .int a4)] [] 0
  unfold m_X12_rests at hm
  refine q_aload_n C (k4 := 0) 0 rfl (by decide +kernel) ?_
  refine q_iload_n C (k4 := 1) 1 rfl (by decide +kernel) ?_
  refine q_viP C Rm (As := [.int a1]) (rest := []) Y_X12_isPuller Yv_X12_isPuller ml_X12_278 (by decide) (by decide) hm (fun r9 e9 => c_X12_isPuller _ _ _ _ _ _ _ _ e9) rfl rfl (Nat.le_of_ble_eq_true rfl) (by decide +kernel) (fun r1 hm z2 => ?_)
  refine q_if_eq C (off := 41) 46 hm (by decide +kernel) (by decide) (fun _ hm => ?_) (fun _ hm => ?_)
  · refine q_iconst C (n := (-1)) (v := (-1)) (by decide) (by decide +kernel) ?_
    exact q_riS hm K rfl (by decide +kernel)
  · refine q_aload_n C (k4 := 0) 0 rfl (by decide +kernel) ?_
    refine q_iload_n C (k4 := 2) 2 rfl (by decide +kernel) ?_
    refine q_viP C Rm (As := [.int a2]) (rest := []) Y_X12_isPuller Yv_X12_isPuller ml_X12_278 (by decide) (by decide) hm (fun r9 e9 => c_X12_isPuller _ _ _ _ _ _ _ _ e9) rfl rfl (Nat.le_of_ble_eq_true rfl) (by decide +kernel) (fun r3 hm z4 => ?_)
    refine q_if_eq C (off := 33) 46 hm (by decide +kernel) (by decide) (fun _ hm => ?_) (fun _ hm => ?_)
    · refine q_iconst C (n := (-1)) (v := (-1)) (by decide) (by decide +kernel) ?_
      exact q_riS hm K rfl (by decide +kernel)
    · refine q_iload_n C (k4 := 1) 1 rfl (by decide +kernel) ?_
      refine q_iload_n C (k4 := 2) 2 rfl (by decide +kernel) ?_
      refine q_icmp_eq C (off := 28) 46 hm (by decide +kernel) (by decide) (fun _ hm => ?_) (fun _ hm => ?_)
      · refine q_iconst C (n := (-1)) (v := (-1)) (by decide) (by decide +kernel) ?_
        exact q_riS hm K rfl (by decide +kernel)
      · refine q_iload_n C (k4 := 3) 3 rfl (by decide +kernel) ?_
        refine q_i2l C (by decide +kernel) ?_
        refine q_lconst C (n := 1) (v := 1) (by decide) (by decide +kernel) ?_
        refine q_ldc2 C (idx := 408) (v := 20) (q_m7 173 rfl rfl) (by decide +kernel) ?_
        refine q_siP C Rm (As := [.long a3.toInt64, .long ((1 : Int64)), .long ((20 : Int64))]) (rest := []) Y_X12_in Ys_X12_in ml_X12_121 (by decide) (by decide) hm (fun r9 e9 => c_X12_in _ _ _ _ _ _ _ _ _ e9) rfl rfl (Nat.le_of_ble_eq_true rfl) (by decide +kernel) (fun r5 hm z6 => ?_)
        refine q_if_eq C (off := 16) 46 hm (by decide +kernel) (by decide) (fun _ hm => ?_) (fun _ hm => ?_)
        · refine q_iconst C (n := (-1)) (v := (-1)) (by decide) (by decide +kernel) ?_
          exact q_riS hm K rfl (by decide +kernel)
        · refine q_iload C (i := 4) 4 rfl (by decide +kernel) ?_
          refine q_i2l C (by decide +kernel) ?_
          refine q_lconst C (n := 0) (v := 0) (by decide) (by decide +kernel) ?_
          refine q_ldc2 C (idx := 381) (v := 2) (q_m7 123 rfl rfl) (by decide +kernel) ?_
          refine q_siP C Rm (As := [.long a4.toInt64, .long ((0 : Int64)), .long ((2 : Int64))]) (rest := []) Y_X12_in Ys_X12_in ml_X12_121 (by decide) (by decide) hm (fun r9 e9 => c_X12_in _ _ _ _ _ _ _ _ _ e9) rfl rfl (Nat.le_of_ble_eq_true rfl) (by decide +kernel) (fun r7 hm z8 => ?_)
          refine q_if_ne C (off := 5) 48 hm (by decide +kernel) (by decide) (fun _ hm => ?_) (fun _ hm => ?_)
          · refine q_aload_n C (k4 := 0) 0 rfl (by decide +kernel) ?_
            refine q_vvS C Rm (As := []) (rest := []) Y_X12_keeps Yv_X12_keeps ml_X12_383 (by decide) (by decide) hm (fun h10 e9 => c_X12_keeps _ _ _ _ _ _ _ e9) rfl rfl (Nat.le_of_ble_eq_true rfl) (by decide +kernel) (fun h10 hm => ?_)
            refine q_iconst C (n := 0) (v := 0) (by decide) (by decide +kernel) ?_
            refine q_istore C Rm.1 (i := 5) (lv' := [(5, .int ((0 : Int32))), (0, .ref a0), (1, .int a1), (2, .int a2), (3, .int a3), (4, .int a4)]) rfl (by decide) (by decide +kernel) ?_
            refine q_loc [1, 2, 3, 4, 5, 0] rfl ?_
            exact v_X12_rests_55 C Rm K _ _ _ _ _ _ _ _ hm
          · refine q_iconst C (n := (-1)) (v := (-1)) (by decide) (by decide +kernel) ?_
            exact q_riS hm K rfl (by decide +kernel)
def m_X12_areAlike_2  : Nat → q_H → Nat → Int32 → Int32 → Int32 → Option Int32
  | 0, _, _, _, _, _ => none
  | n + 1, h0, x0, x1, x2, x3 =>
    if (10 : Int32) ≤ x3 then
      some ((1 : Int32))
    else
      (q_gn h0 x0 12 29).bind fun v1 =>
      (q_ai h0 v1 1 ((((10 : Int32) * x1) + x3))).bind fun v2 =>
      (q_gn h0 x0 12 29).bind fun v3 =>
      (q_ai h0 v3 1 ((((10 : Int32) * x2) + x3))).bind fun v4 =>
      if v2 = v4 then
        m_X12_areAlike_2 n h0 x0 x1 x2 ((x3 + (1 : Int32)))
      else
        some ((0 : Int32))
set_option maxRecDepth 20000 in
set_option maxHeartbeats 1000000 in
theorem v_X12_areAlike_2 {Γ : q_G} {sz : Nat} {h0 : q_H} {r : Int32} (C : q_C Γ cX12_areAlike RX12) (Rm : q_Rm Γ 4 0 0 0 0)  (K : narrow .boolean (.int r) = .int r → q_K Γ cX12_areAlike .ireturn sz h0 0 0 [.int r])  : ∀ (n : Nat) (x0 : Nat) (x1 : Int32) (x2 : Int32) (x3 : Int32), m_X12_areAlike_2 n h0 x0 x1 x2 x3 = some r → q_V Γ sz 0 0 h0 [(0, .ref x0), (1, .int x1), (2, .int x2), (3, .int x3)] [] 2 := by
  intro n
  induction n with
  | zero => intro x0 x1 x2 x3 hm; cases hm
  | succ n ih =>
    intro x0 x1 x2 x3 hm
    unfold m_X12_areAlike_2 at hm
    refine q_iload_n C (k4 := 3) 3 rfl (by decide +kernel) ?_
    refine q_bipush C (n := 10) (v := 10) (by decide) (by decide +kernel) ?_
    refine q_icmp_ge C (off := 36) 41 hm (by decide +kernel) (by decide) (fun _ hm => ?_) (fun _ hm => ?_)
    · refine q_iconst C (n := 1) (v := 1) (by decide) (by decide +kernel) ?_
      exact q_riP hm K q_z1 (by decide +kernel)
    · refine q_aload_n C (k4 := 0) 0 rfl (by decide +kernel) ?_
      refine q_getn C fl_12_61 hm (by decide +kernel) (fun v1 hm => ?_)
      refine q_bipush C (n := 10) (v := 10) (by decide) (by decide +kernel) ?_
      refine q_iload_n C (k4 := 1) 1 rfl (by decide +kernel) ?_
      refine q_imul C (by decide +kernel) ?_
      refine q_iload_n C (k4 := 3) 3 rfl (by decide +kernel) ?_
      refine q_iadd C (by decide +kernel) ?_
      refine q_ir C hm (by decide +kernel) (fun v2 hm => ?_)
      refine q_aload_n C (k4 := 0) 0 rfl (by decide +kernel) ?_
      refine q_getn C fl_12_61 hm (by decide +kernel) (fun v3 hm => ?_)
      refine q_bipush C (n := 10) (v := 10) (by decide) (by decide +kernel) ?_
      refine q_iload_n C (k4 := 2) 2 rfl (by decide +kernel) ?_
      refine q_imul C (by decide +kernel) ?_
      refine q_iload_n C (k4 := 3) 3 rfl (by decide +kernel) ?_
      refine q_iadd C (by decide +kernel) ?_
      refine q_ir C hm (by decide +kernel) (fun v4 hm => ?_)
      refine q_icmp_eq C (off := 5) 35 hm (by decide +kernel) (by decide) (fun _ hm => ?_) (fun _ hm => ?_)
      · refine q_iinc C Rm.1 (i := 3) (n := 1) (v := (x3 + (1 : Int32))) 3 rfl (q_inc _ (by decide)) (lv' := [(3, .int ((x3 + (1 : Int32)))), (0, .ref x0), (1, .int x1), (2, .int x2)]) rfl (by decide) (by decide +kernel) ?_
        refine q_goto C (off := -36) 2 (by decide +kernel) (by decide) ?_
        refine q_loc [1, 2, 3, 0] rfl ?_
        exact ih _ _ _ _ hm
      · refine q_iconst C (n := 0) (v := 0) (by decide) (by decide +kernel) ?_
        exact q_riP hm K q_z0 (by decide +kernel)
def m_X12_areAlike (h0 : q_H) (a0 : Nat) (a1 : Int32) (a2 : Int32) : Option Int32 :=
  m_X12_areAlike_2 q_fu h0 a0 a1 a2 ((0 : Int32))
set_option maxRecDepth 20000 in
set_option maxHeartbeats 1000000 in
theorem c_X12_areAlike (l : Launch) (base : Nat) (D : va_G) (tc : Nat → ClassId) (sz : Nat) (h0 : q_H) (a0 : Nat) (a1 : Int32) (a2 : Int32) {r : Int32} (hm : m_X12_areAlike h0 a0 a1 a2 = some r) : q_M l yX12_areAlike cX12_areAlike 4 (some .boolean) 0 0 0 0 base D tc [.ref a0, .int a1, .int a2] sz h0 (some (.int r)) sz h0 := by
  refine q_starti (by decide) (Nat.le_of_ble_eq_true rfl) (fun Γ B K => ?_)
  obtain ⟨C, Rm, -⟩ := B
  have C : q_C Γ cX12_areAlike RX12 := C
  show q_V Γ sz 0 0 h0 [(0, .ref a0), (1, .int a1), (2, .int a2)] [] 0
  unfold m_X12_areAlike at hm
  refine q_iconst C (n := 0) (v := 0) (by decide) (by decide +kernel) ?_
  refine q_istore_n C Rm.1 (k4 := 3) (i := 3) rfl (lv' := [(3, .int ((0 : Int32))), (0, .ref a0), (1, .int a1), (2, .int a2)]) rfl (by decide) (by decide +kernel) ?_
  refine q_loc [1, 2, 3, 0] rfl ?_
  exact v_X12_areAlike_2 C Rm K _ _ _ _ _ hm
def m_X12_alike_33 (k25 : q_H → Nat → Int32 → Int32 → Option (Int32 × q_H)) : Nat → q_H → Nat → Int32 → Int32 → Int32 → Option (Int32 × q_H)
  | 0, _, _, _, _, _ => none
  | n + 1, h, x0, x1, x2, x3 =>
    if (8 : Int32) ≤ x3 then
      (q_gn h x0 12 29).bind fun v9 =>
      (q_gn h x0 12 20).bind fun v10 =>
      (q_ai h v10 1 ((11 : Int32))).bind fun v11 =>
      (q_si h v9 1 ((((10 : Int32) * x2) + (8 : Int32))) v11).bind fun h12 =>
      (q_gn h12 x0 12 29).bind fun v13 =>
      (q_ca 12 h12 x0 (m_X12_upOnes h12 x0)).bind fun r14 =>
      (q_si h12 v13 1 ((((10 : Int32) * x2) + (9 : Int32))) r14).bind fun h16 =>
      (q_ca 12 h16 x0 (m_X12_passes h16 x0)).bind fun h18 =>
      k25 h18 x0 x1 ((x2 + (1 : Int32)))
    else
      (q_gn h x0 12 29).bind fun v19 =>
      (q_ca 12 h x0 (m_X12_windOf h x0 x3)).bind fun r20 =>
      (q_si h v19 1 ((((10 : Int32) * x2) + x3)) r20).bind fun h22 =>
      m_X12_alike_33 k25 n h22 x0 x1 x2 ((x3 + (1 : Int32)))
set_option maxRecDepth 20000 in
set_option maxHeartbeats 1000000 in
theorem v_X12_alike_33 {Γ : q_G} {sz : Nat} {r : Int32} {h' : q_H} (C : q_C Γ cX12_alike RX12) (Rm : q_Rm Γ 4 6 144 0 0) {k25 : q_H → Nat → Int32 → Int32 → Option (Int32 × q_H)} (K : narrow .int (.int r) = .int r → q_K Γ cX12_alike .ireturn sz h' 0 0 [.int r]) (hk25 : ∀ (h : q_H) (x0 : Nat) (x1 : Int32) (x2 : Int32), k25 h x0 x1 x2 = some (r, h') → q_V Γ sz 0 0 h [(0, .ref x0), (1, .int x1), (2, .int x2)] [] 25) : ∀ (n : Nat) (h : q_H) (x0 : Nat) (x1 : Int32) (x2 : Int32) (x3 : Int32), m_X12_alike_33 k25 n h x0 x1 x2 x3 = some (r, h') → q_V Γ sz 0 0 h [(0, .ref x0), (1, .int x1), (2, .int x2), (3, .int x3)] [] 33 := by
  intro n
  induction n with
  | zero => intro h x0 x1 x2 x3 hm; cases hm
  | succ n ih =>
    intro h x0 x1 x2 x3 hm
    unfold m_X12_alike_33 at hm
    refine q_iload_n C (k4 := 3) 3 rfl (by decide +kernel) ?_
    refine q_bipush C (n := 8) (v := 8) (by decide) (by decide +kernel) ?_
    refine q_icmp_ge C (off := 25) 61 hm (by decide +kernel) (by decide) (fun _ hm => ?_) (fun _ hm => ?_)
    · refine q_aload_n C (k4 := 0) 0 rfl (by decide +kernel) ?_
      refine q_getn C fl_12_61 hm (by decide +kernel) (fun v9 hm => ?_)
      refine q_bipush C (n := 10) (v := 10) (by decide) (by decide +kernel) ?_
      refine q_iload_n C (k4 := 2) 2 rfl (by decide +kernel) ?_
      refine q_imul C (by decide +kernel) ?_
      refine q_bipush C (n := 8) (v := 8) (by decide) (by decide +kernel) ?_
      refine q_iadd C (by decide +kernel) ?_
      refine q_aload_n C (k4 := 0) 0 rfl (by decide +kernel) ?_
      refine q_getn C fl_12_39 hm (by decide +kernel) (fun v10 hm => ?_)
      refine q_bipush C (n := 11) (v := 11) (by decide) (by decide +kernel) ?_
      refine q_ir C hm (by decide +kernel) (fun v11 hm => ?_)
      refine q_iw C hm (by decide +kernel) (fun h12 hm => ?_)
      refine q_aload_n C (k4 := 0) 0 rfl (by decide +kernel) ?_
      refine q_getn C fl_12_61 hm (by decide +kernel) (fun v13 hm => ?_)
      refine q_bipush C (n := 10) (v := 10) (by decide) (by decide +kernel) ?_
      refine q_iload_n C (k4 := 2) 2 rfl (by decide +kernel) ?_
      refine q_imul C (by decide +kernel) ?_
      refine q_bipush C (n := 9) (v := 9) (by decide) (by decide +kernel) ?_
      refine q_iadd C (by decide +kernel) ?_
      refine q_aload_n C (k4 := 0) 0 rfl (by decide +kernel) ?_
      refine q_viP C Rm (As := []) (rest := [.int ((((10 : Int32) * x2) + (9 : Int32))), .ref v13]) Y_X12_upOnes Yv_X12_upOnes ml_X12_306 (by decide) (by decide) hm (fun r9 e9 => c_X12_upOnes _ _ _ _ _ _ _ e9) rfl rfl (Nat.le_of_ble_eq_true rfl) (by decide +kernel) (fun r14 hm z15 => ?_)
      refine q_iw C hm (by decide +kernel) (fun h16 hm => ?_)
      refine q_aload_n C (k4 := 0) 0 rfl (by decide +kernel) ?_
      refine q_vvS C Rm (As := []) (rest := []) Y_X12_passes Yv_X12_passes ml_X12_347 (by decide) (by decide) hm (fun h18 e9 => c_X12_passes _ _ _ _ _ _ _ e9) rfl rfl (Nat.le_of_ble_eq_true rfl) (by decide +kernel) (fun h18 hm => ?_)
      refine q_iinc C Rm.1 (i := 2) (n := 1) (v := (x2 + (1 : Int32))) 2 rfl (q_inc _ (by decide)) (lv' := [(2, .int ((x2 + (1 : Int32)))), (0, .ref x0), (1, .int x1), (3, .int x3)]) rfl (by decide) (by decide +kernel) ?_
      refine q_goto C (off := -78) 25 (by decide +kernel) (by decide) ?_
      refine q_loc [1, 2, 0] rfl ?_
      exact hk25 _ _ _ _ hm
    · refine q_aload_n C (k4 := 0) 0 rfl (by decide +kernel) ?_
      refine q_getn C fl_12_61 hm (by decide +kernel) (fun v19 hm => ?_)
      refine q_bipush C (n := 10) (v := 10) (by decide) (by decide +kernel) ?_
      refine q_iload_n C (k4 := 2) 2 rfl (by decide +kernel) ?_
      refine q_imul C (by decide +kernel) ?_
      refine q_iload_n C (k4 := 3) 3 rfl (by decide +kernel) ?_
      refine q_iadd C (by decide +kernel) ?_
      refine q_aload_n C (k4 := 0) 0 rfl (by decide +kernel) ?_
      refine q_iload_n C (k4 := 3) 3 rfl (by decide +kernel) ?_
      refine q_viP C Rm (As := [.int x3]) (rest := [.int ((((10 : Int32) * x2) + x3)), .ref v19]) Y_X12_windOf Yv_X12_windOf ml_X12_293 (by decide) (by decide) hm (fun r9 e9 => c_X12_windOf _ _ _ _ _ _ _ _ e9) rfl rfl (Nat.le_of_ble_eq_true rfl) (by decide +kernel) (fun r20 hm z21 => ?_)
      refine q_iw C hm (by decide +kernel) (fun h22 hm => ?_)
      refine q_iinc C Rm.1 (i := 3) (n := 1) (v := (x3 + (1 : Int32))) 3 rfl (q_inc _ (by decide)) (lv' := [(3, .int ((x3 + (1 : Int32)))), (0, .ref x0), (1, .int x1), (2, .int x2)]) rfl (by decide) (by decide +kernel) ?_
      refine q_goto C (off := -25) 33 (by decide +kernel) (by decide) ?_
      refine q_loc [1, 2, 3, 0] rfl ?_
      exact ih _ _ _ _ _ hm
def m_X12_alike_122 (k112 : q_H → Nat → Int32 → Int32 → Option (Int32 × q_H)) : Nat → q_H → Nat → Int32 → Int32 → Int32 → Option (Int32 × q_H)
  | 0, _, _, _, _, _ => none
  | n + 1, h, x0, x1, x2, x3 =>
    if (60 : Int32) < x3 then
      k112 h x0 x1 ((x2 + (1 : Int32)))
    else
      (q_ca 12 h x0 (m_X12_areAlike h x0 x2 x3)).bind fun r23 =>
      if r23 = 0 then
        m_X12_alike_122 k112 n h x0 x1 x2 ((x3 + (1 : Int32)))
      else
        if x1 = 0 then
          (q_gn h x0 12 20).bind fun v25 =>
          (q_ai h v25 1 ((10 : Int32))).bind fun v26 =>
          some ((v26 + x2), h)
        else
          some ((x3 - x2), h)
set_option maxRecDepth 20000 in
set_option maxHeartbeats 1000000 in
theorem v_X12_alike_122 {Γ : q_G} {sz : Nat} {r : Int32} {h' : q_H} (C : q_C Γ cX12_alike RX12) (Rm : q_Rm Γ 4 6 144 0 0) {k112 : q_H → Nat → Int32 → Int32 → Option (Int32 × q_H)} (K : narrow .int (.int r) = .int r → q_K Γ cX12_alike .ireturn sz h' 0 0 [.int r]) (hk112 : ∀ (h : q_H) (x0 : Nat) (x1 : Int32) (x2 : Int32), k112 h x0 x1 x2 = some (r, h') → q_V Γ sz 0 0 h [(0, .ref x0), (1, .int x1), (2, .int x2)] [] 112) : ∀ (n : Nat) (h : q_H) (x0 : Nat) (x1 : Int32) (x2 : Int32) (x3 : Int32), m_X12_alike_122 k112 n h x0 x1 x2 x3 = some (r, h') → q_V Γ sz 0 0 h [(0, .ref x0), (1, .int x1), (2, .int x2), (3, .int x3)] [] 122 := by
  intro n
  induction n with
  | zero => intro h x0 x1 x2 x3 hm; cases hm
  | succ n ih =>
    intro h x0 x1 x2 x3 hm
    unfold m_X12_alike_122 at hm
    refine q_iload_n C (k4 := 3) 3 rfl (by decide +kernel) ?_
    refine q_bipush C (n := 60) (v := 60) (by decide) (by decide +kernel) ?_
    refine q_icmp_gt C (off := 38) 163 hm (by decide +kernel) (by decide) (fun _ hm => ?_) (fun _ hm => ?_)
    · refine q_iinc C Rm.1 (i := 2) (n := 1) (v := (x2 + (1 : Int32))) 2 rfl (q_inc _ (by decide)) (lv' := [(2, .int ((x2 + (1 : Int32)))), (0, .ref x0), (1, .int x1), (3, .int x3)]) rfl (by decide) (by decide +kernel) ?_
      refine q_goto C (off := -54) 112 (by decide +kernel) (by decide) ?_
      refine q_loc [1, 2, 0] rfl ?_
      exact hk112 _ _ _ _ hm
    · refine q_aload_n C (k4 := 0) 0 rfl (by decide +kernel) ?_
      refine q_iload_n C (k4 := 2) 2 rfl (by decide +kernel) ?_
      refine q_iload_n C (k4 := 3) 3 rfl (by decide +kernel) ?_
      refine q_viP C Rm (As := [.int x2, .int x3]) (rest := []) Y_X12_areAlike Yv_X12_areAlike ml_X12_417 (by decide) (by decide) hm (fun r9 e9 => c_X12_areAlike _ _ _ _ _ _ _ _ _ e9) rfl rfl (Nat.le_of_ble_eq_true rfl) (by decide +kernel) (fun r23 hm z24 => ?_)
      refine q_if_eq C (off := 23) 157 hm (by decide +kernel) (by decide) (fun _ hm => ?_) (fun _ hm => ?_)
      · refine q_iinc C Rm.1 (i := 3) (n := 1) (v := (x3 + (1 : Int32))) 3 rfl (q_inc _ (by decide)) (lv' := [(3, .int ((x3 + (1 : Int32)))), (0, .ref x0), (1, .int x1), (2, .int x2)]) rfl (by decide) (by decide +kernel) ?_
        refine q_goto C (off := -38) 122 (by decide +kernel) (by decide) ?_
        refine q_loc [1, 2, 3, 0] rfl ?_
        exact ih _ _ _ _ _ hm
      · refine q_iload_n C (k4 := 1) 1 rfl (by decide +kernel) ?_
        refine q_if_ne C (off := 15) 153 hm (by decide +kernel) (by decide) (fun _ hm => ?_) (fun _ hm => ?_)
        · refine q_iload_n C (k4 := 3) 3 rfl (by decide +kernel) ?_
          refine q_iload_n C (k4 := 2) 2 rfl (by decide +kernel) ?_
          refine q_isub C (by decide +kernel) ?_
          exact q_riS hm K rfl (by decide +kernel)
        · refine q_aload_n C (k4 := 0) 0 rfl (by decide +kernel) ?_
          refine q_getn C fl_12_39 hm (by decide +kernel) (fun v25 hm => ?_)
          refine q_bipush C (n := 10) (v := 10) (by decide) (by decide +kernel) ?_
          refine q_ir C hm (by decide +kernel) (fun v26 hm => ?_)
          refine q_iload_n C (k4 := 2) 2 rfl (by decide +kernel) ?_
          refine q_iadd C (by decide +kernel) ?_
          refine q_goto C (off := 6) 156 (by decide +kernel) (by decide) ?_
          exact q_riS hm K rfl (by decide +kernel)
def m_X12_alike_112  : Nat → q_H → Nat → Int32 → Int32 → Option (Int32 × q_H)
  | 0, _, _, _, _ => none
  | n + 1, h, x0, x1, x2 =>
    if (60 : Int32) ≤ x2 then
      some ((-2 : Int32), h)
    else
      m_X12_alike_122 (m_X12_alike_112 n) q_fu h x0 x1 x2 ((x2 + (1 : Int32)))
set_option maxRecDepth 20000 in
set_option maxHeartbeats 1000000 in
theorem v_X12_alike_112 {Γ : q_G} {sz : Nat} {r : Int32} {h' : q_H} (C : q_C Γ cX12_alike RX12) (Rm : q_Rm Γ 4 6 144 0 0)  (K : narrow .int (.int r) = .int r → q_K Γ cX12_alike .ireturn sz h' 0 0 [.int r])  : ∀ (n : Nat) (h : q_H) (x0 : Nat) (x1 : Int32) (x2 : Int32), m_X12_alike_112 n h x0 x1 x2 = some (r, h') → q_V Γ sz 0 0 h [(0, .ref x0), (1, .int x1), (2, .int x2)] [] 112 := by
  intro n
  induction n with
  | zero => intro h x0 x1 x2 hm; cases hm
  | succ n ih =>
    intro h x0 x1 x2 hm
    unfold m_X12_alike_112 at hm
    refine q_iload_n C (k4 := 2) 2 rfl (by decide +kernel) ?_
    refine q_bipush C (n := 60) (v := 60) (by decide) (by decide +kernel) ?_
    refine q_icmp_ge C (off := 54) 169 hm (by decide +kernel) (by decide) (fun _ hm => ?_) (fun _ hm => ?_)
    · refine q_bipush C (n := (-2)) (v := (-2)) (by decide) (by decide +kernel) ?_
      exact q_riS hm K rfl (by decide +kernel)
    · refine q_iload_n C (k4 := 2) 2 rfl (by decide +kernel) ?_
      refine q_iconst C (n := 1) (v := 1) (by decide) (by decide +kernel) ?_
      refine q_iadd C (by decide +kernel) ?_
      refine q_istore_n C Rm.1 (k4 := 3) (i := 3) rfl (lv' := [(3, .int ((x2 + (1 : Int32)))), (0, .ref x0), (1, .int x1), (2, .int x2)]) rfl (by decide) (by decide +kernel) ?_
      refine q_loc [1, 2, 3, 0] rfl ?_
      exact v_X12_alike_122 C Rm K ih _ _ _ _ _ _ hm
def m_X12_alike_25  : Nat → q_H → Nat → Int32 → Int32 → Option (Int32 × q_H)
  | 0, _, _, _, _ => none
  | n + 1, h, x0, x1, x2 =>
    if (60 : Int32) < x2 then
      (q_ca 12 h x0 (m_X12_laysBack h x0)).bind fun h8 =>
      m_X12_alike_112 q_fu h8 x0 x1 ((0 : Int32))
    else
      m_X12_alike_33 (m_X12_alike_25 n) q_fu h x0 x1 x2 ((0 : Int32))
set_option maxRecDepth 20000 in
set_option maxHeartbeats 1000000 in
theorem v_X12_alike_25 {Γ : q_G} {sz : Nat} {r : Int32} {h' : q_H} (C : q_C Γ cX12_alike RX12) (Rm : q_Rm Γ 4 6 144 0 0)  (K : narrow .int (.int r) = .int r → q_K Γ cX12_alike .ireturn sz h' 0 0 [.int r])  : ∀ (n : Nat) (h : q_H) (x0 : Nat) (x1 : Int32) (x2 : Int32), m_X12_alike_25 n h x0 x1 x2 = some (r, h') → q_V Γ sz 0 0 h [(0, .ref x0), (1, .int x1), (2, .int x2)] [] 25 := by
  intro n
  induction n with
  | zero => intro h x0 x1 x2 hm; cases hm
  | succ n ih =>
    intro h x0 x1 x2 hm
    unfold m_X12_alike_25 at hm
    refine q_iload_n C (k4 := 2) 2 rfl (by decide +kernel) ?_
    refine q_bipush C (n := 60) (v := 60) (by decide) (by decide +kernel) ?_
    refine q_icmp_gt C (off := 78) 106 hm (by decide +kernel) (by decide) (fun _ hm => ?_) (fun _ hm => ?_)
    · refine q_aload_n C (k4 := 0) 0 rfl (by decide +kernel) ?_
      refine q_vvS C Rm (As := []) (rest := []) Y_X12_laysBack Yv_X12_laysBack ml_X12_389 (by decide) (by decide) hm (fun h8 e9 => c_X12_laysBack _ _ _ _ _ _ _ e9) rfl rfl (Nat.le_of_ble_eq_true rfl) (by decide +kernel) (fun h8 hm => ?_)
      refine q_iconst C (n := 0) (v := 0) (by decide) (by decide +kernel) ?_
      refine q_istore_n C Rm.1 (k4 := 2) (i := 2) rfl (lv' := [(2, .int ((0 : Int32))), (0, .ref x0), (1, .int x1)]) rfl (by decide) (by decide +kernel) ?_
      refine q_loc [1, 2, 0] rfl ?_
      exact v_X12_alike_112 C Rm K _ _ _ _ _ hm
    · refine q_iconst C (n := 0) (v := 0) (by decide) (by decide +kernel) ?_
      refine q_istore_n C Rm.1 (k4 := 3) (i := 3) rfl (lv' := [(3, .int ((0 : Int32))), (0, .ref x0), (1, .int x1), (2, .int x2)]) rfl (by decide) (by decide +kernel) ?_
      refine q_loc [1, 2, 3, 0] rfl ?_
      exact v_X12_alike_33 C Rm K ih _ _ _ _ _ _ hm
def m_X12_alike (h : q_H) (a0 : Nat) (a1 : Int32) : Option (Int32 × q_H) :=
  (q_ca 12 h a0 (m_X12_isRope h a0)).bind fun r1 =>
  if r1 = 0 then
    some ((-1 : Int32), h)
  else
    (m_X12_in a1.toInt64 ((0 : Int64)) ((1 : Int64))).bind fun r3 =>
    if r3 = 0 then
      some ((-1 : Int32), h)
    else
      (q_ca 12 h a0 (m_X12_keeps h a0)).bind fun h6 =>
      m_X12_alike_25 q_fu h6 a0 a1 ((0 : Int32))
set_option maxRecDepth 20000 in
set_option maxHeartbeats 1000000 in
theorem c_X12_alike (l : Launch) (base : Nat) (D : va_G) (tc : Nat → ClassId) (sz : Nat) (h : q_H) (a0 : Nat) (a1 : Int32) {r : Int32} {h' : q_H} (hm : m_X12_alike h a0 a1 = some (r, h')) : q_M l yX12_alike cX12_alike 4 (some .int) 6 144 0 0 base D tc [.ref a0, .int a1] sz h (some (.int r)) sz h' := by
  refine q_starti (by decide) (Nat.le_of_ble_eq_true rfl) (fun Γ B K => ?_)
  obtain ⟨C, Rm, -⟩ := B
  have C : q_C Γ cX12_alike RX12 := C
  show q_V Γ sz 0 0 h [(0, .ref a0), (1, .int a1)] [] 0
  unfold m_X12_alike at hm
  refine q_aload_n C (k4 := 0) 0 rfl (by decide +kernel) ?_
  refine q_viP C Rm (As := []) (rest := []) Y_X12_isRope Yv_X12_isRope ml_X12_299 (by decide) (by decide) hm (fun r9 e9 => c_X12_isRope _ _ _ _ _ _ _ e9) rfl rfl (Nat.le_of_ble_eq_true rfl) (by decide +kernel) (fun r1 hm z2 => ?_)
  refine q_if_eq C (off := 13) 17 hm (by decide +kernel) (by decide) (fun _ hm => ?_) (fun _ hm => ?_)
  · refine q_iconst C (n := (-1)) (v := (-1)) (by decide) (by decide +kernel) ?_
    exact q_riS hm K rfl (by decide +kernel)
  · refine q_iload_n C (k4 := 1) 1 rfl (by decide +kernel) ?_
    refine q_i2l C (by decide +kernel) ?_
    refine q_lconst C (n := 0) (v := 0) (by decide) (by decide +kernel) ?_
    refine q_lconst C (n := 1) (v := 1) (by decide) (by decide +kernel) ?_
    refine q_siP C Rm (As := [.long a1.toInt64, .long ((0 : Int64)), .long ((1 : Int64))]) (rest := []) Y_X12_in Ys_X12_in ml_X12_121 (by decide) (by decide) hm (fun r9 e9 => c_X12_in _ _ _ _ _ _ _ _ _ e9) rfl rfl (Nat.le_of_ble_eq_true rfl) (by decide +kernel) (fun r3 hm z4 => ?_)
    refine q_if_ne C (off := 5) 19 hm (by decide +kernel) (by decide) (fun _ hm => ?_) (fun _ hm => ?_)
    · refine q_aload_n C (k4 := 0) 0 rfl (by decide +kernel) ?_
      refine q_vvS C Rm (As := []) (rest := []) Y_X12_keeps Yv_X12_keeps ml_X12_383 (by decide) (by decide) hm (fun h6 e9 => c_X12_keeps _ _ _ _ _ _ _ e9) rfl rfl (Nat.le_of_ble_eq_true rfl) (by decide +kernel) (fun h6 hm => ?_)
      refine q_iconst C (n := 0) (v := 0) (by decide) (by decide +kernel) ?_
      refine q_istore_n C Rm.1 (k4 := 2) (i := 2) rfl (lv' := [(2, .int ((0 : Int32))), (0, .ref a0), (1, .int a1)]) rfl (by decide) (by decide +kernel) ?_
      refine q_loc [1, 2, 0] rfl ?_
      exact v_X12_alike_25 C Rm K _ _ _ _ _ hm
    · refine q_iconst C (n := (-1)) (v := (-1)) (by decide) (by decide +kernel) ?_
      exact q_riS hm K rfl (by decide +kernel)
def m_X12_pence_116 (k51 : q_H → Nat → Int32 → Int32 → Int32 → Int32 → Int32 → Int32 → Int32 → Option Int32) (h0 : q_H) (x0 : Nat) (x1 : Int32) (x2 : Int32) (x3 : Int32) (x4 : Int32) (x5 : Int32) (x7 : Int32) (s0 : Int32) (s1 : Int32) : Option Int32 :=
  k51 h0 x0 x1 x2 x3 x4 x5 ((s1 + s0)) ((x7 + (1 : Int32)))
set_option maxRecDepth 20000 in
set_option maxHeartbeats 1000000 in
theorem v_X12_pence_116 {Γ : q_G} {sz : Nat} {h0 : q_H} {r : Int32} (C : q_C Γ cX12_pence RX12) (Rm : q_Rm Γ 9 2 43 0 0) {k51 : q_H → Nat → Int32 → Int32 → Int32 → Int32 → Int32 → Int32 → Int32 → Option Int32} (K : narrow .int (.int r) = .int r → q_K Γ cX12_pence .ireturn sz h0 0 0 [.int r]) (hk51 : ∀ (x0 : Nat) (x1 : Int32) (x2 : Int32) (x3 : Int32) (x4 : Int32) (x5 : Int32) (x6 : Int32) (x7 : Int32), k51 h0 x0 x1 x2 x3 x4 x5 x6 x7 = some r → q_V Γ sz 0 0 h0 [(0, .ref x0), (1, .int x1), (2, .int x2), (3, .int x3), (4, .int x4), (5, .int x5), (6, .int x6), (7, .int x7)] [] 51) : ∀ (x0 : Nat) (x1 : Int32) (x2 : Int32) (x3 : Int32) (x4 : Int32) (x5 : Int32) (x7 : Int32) (s0 : Int32) (s1 : Int32), m_X12_pence_116 k51 h0 x0 x1 x2 x3 x4 x5 x7 s0 s1 = some r → q_V Γ sz 0 0 h0 [(0, .ref x0), (1, .int x1), (2, .int x2), (3, .int x3), (4, .int x4), (5, .int x5), (7, .int x7)] [.int s0, .int s1] 116 := by
  intro x0 x1 x2 x3 x4 x5 x7 s0 s1 hm
  unfold m_X12_pence_116 at hm
  refine q_iadd C (by decide +kernel) ?_
  refine q_istore C Rm.1 (i := 6) (lv' := [(6, .int ((s1 + s0))), (0, .ref x0), (1, .int x1), (2, .int x2), (3, .int x3), (4, .int x4), (5, .int x5), (7, .int x7)]) rfl (by decide) (by decide +kernel) ?_
  refine q_iinc C Rm.1 (i := 7) (n := 1) (v := (x7 + (1 : Int32))) 7 rfl (q_inc _ (by decide)) (lv' := [(7, .int ((x7 + (1 : Int32)))), (6, .int ((s1 + s0))), (0, .ref x0), (1, .int x1), (2, .int x2), (3, .int x3), (4, .int x4), (5, .int x5)]) rfl (by decide) (by decide +kernel) ?_
  refine q_goto C (off := -71) 51 (by decide +kernel) (by decide) ?_
  refine q_loc [2, 3, 4, 5, 6, 7, 1, 0] rfl ?_
  exact hk51 _ _ _ _ _ _ _ _ hm
def m_X12_pence_111 (k51 : q_H → Nat → Int32 → Int32 → Int32 → Int32 → Int32 → Int32 → Int32 → Option Int32) (h0 : q_H) (x0 : Nat) (x1 : Int32) (x2 : Int32) (x3 : Int32) (x4 : Int32) (x5 : Int32) (x7 : Int32) (s0 : Int32) : Option Int32 :=
  m_X12_pence_116 k51 h0 x0 x1 x2 x3 x4 x5 x7 ((1 : Int32)) s0
set_option maxRecDepth 20000 in
set_option maxHeartbeats 1000000 in
theorem v_X12_pence_111 {Γ : q_G} {sz : Nat} {h0 : q_H} {r : Int32} (C : q_C Γ cX12_pence RX12) (Rm : q_Rm Γ 9 2 43 0 0) {k51 : q_H → Nat → Int32 → Int32 → Int32 → Int32 → Int32 → Int32 → Int32 → Option Int32} (K : narrow .int (.int r) = .int r → q_K Γ cX12_pence .ireturn sz h0 0 0 [.int r]) (hk51 : ∀ (x0 : Nat) (x1 : Int32) (x2 : Int32) (x3 : Int32) (x4 : Int32) (x5 : Int32) (x6 : Int32) (x7 : Int32), k51 h0 x0 x1 x2 x3 x4 x5 x6 x7 = some r → q_V Γ sz 0 0 h0 [(0, .ref x0), (1, .int x1), (2, .int x2), (3, .int x3), (4, .int x4), (5, .int x5), (6, .int x6), (7, .int x7)] [] 51) : ∀ (x0 : Nat) (x1 : Int32) (x2 : Int32) (x3 : Int32) (x4 : Int32) (x5 : Int32) (x7 : Int32) (s0 : Int32), m_X12_pence_111 k51 h0 x0 x1 x2 x3 x4 x5 x7 s0 = some r → q_V Γ sz 0 0 h0 [(0, .ref x0), (1, .int x1), (2, .int x2), (3, .int x3), (4, .int x4), (5, .int x5), (7, .int x7)] [.int s0] 111 := by
  intro x0 x1 x2 x3 x4 x5 x7 s0 hm
  unfold m_X12_pence_111 at hm
  refine q_iconst C (n := 1) (v := 1) (by decide) (by decide +kernel) ?_
  refine q_goto C (off := 4) 116 (by decide +kernel) (by decide) ?_
  exact v_X12_pence_116 C Rm K hk51 _ _ _ _ _ _ _ _ _ hm
def m_X12_pence_115 (k51 : q_H → Nat → Int32 → Int32 → Int32 → Int32 → Int32 → Int32 → Int32 → Option Int32) (h0 : q_H) (x0 : Nat) (x1 : Int32) (x2 : Int32) (x3 : Int32) (x4 : Int32) (x5 : Int32) (x7 : Int32) (s0 : Int32) : Option Int32 :=
  m_X12_pence_116 k51 h0 x0 x1 x2 x3 x4 x5 x7 ((0 : Int32)) s0
set_option maxRecDepth 20000 in
set_option maxHeartbeats 1000000 in
theorem v_X12_pence_115 {Γ : q_G} {sz : Nat} {h0 : q_H} {r : Int32} (C : q_C Γ cX12_pence RX12) (Rm : q_Rm Γ 9 2 43 0 0) {k51 : q_H → Nat → Int32 → Int32 → Int32 → Int32 → Int32 → Int32 → Int32 → Option Int32} (K : narrow .int (.int r) = .int r → q_K Γ cX12_pence .ireturn sz h0 0 0 [.int r]) (hk51 : ∀ (x0 : Nat) (x1 : Int32) (x2 : Int32) (x3 : Int32) (x4 : Int32) (x5 : Int32) (x6 : Int32) (x7 : Int32), k51 h0 x0 x1 x2 x3 x4 x5 x6 x7 = some r → q_V Γ sz 0 0 h0 [(0, .ref x0), (1, .int x1), (2, .int x2), (3, .int x3), (4, .int x4), (5, .int x5), (6, .int x6), (7, .int x7)] [] 51) : ∀ (x0 : Nat) (x1 : Int32) (x2 : Int32) (x3 : Int32) (x4 : Int32) (x5 : Int32) (x7 : Int32) (s0 : Int32), m_X12_pence_115 k51 h0 x0 x1 x2 x3 x4 x5 x7 s0 = some r → q_V Γ sz 0 0 h0 [(0, .ref x0), (1, .int x1), (2, .int x2), (3, .int x3), (4, .int x4), (5, .int x5), (7, .int x7)] [.int s0] 115 := by
  intro x0 x1 x2 x3 x4 x5 x7 s0 hm
  unfold m_X12_pence_115 at hm
  refine q_iconst C (n := 0) (v := 0) (by decide) (by decide +kernel) ?_
  exact v_X12_pence_116 C Rm K hk51 _ _ _ _ _ _ _ _ _ hm
def m_X12_pence_141  (h0 : q_H) (s0 : Int32) (s1 : Int32) : Option Int32 :=
  some ((s1 + s0))
set_option maxRecDepth 20000 in
set_option maxHeartbeats 1000000 in
theorem v_X12_pence_141 {Γ : q_G} {sz : Nat} {h0 : q_H} {r : Int32} (C : q_C Γ cX12_pence RX12) (Rm : q_Rm Γ 9 2 43 0 0)  (K : narrow .int (.int r) = .int r → q_K Γ cX12_pence .ireturn sz h0 0 0 [.int r])  : ∀ (s0 : Int32) (s1 : Int32), m_X12_pence_141 h0 s0 s1 = some r → q_V Γ sz 0 0 h0 [] [.int s0, .int s1] 141 := by
  intro s0 s1 hm
  unfold m_X12_pence_141 at hm
  refine q_iadd C (by decide +kernel) ?_
  exact q_riP hm K rfl (by decide +kernel)
def m_X12_pence_51  : Nat → q_H → Nat → Int32 → Int32 → Int32 → Int32 → Int32 → Int32 → Int32 → Option Int32
  | 0, _, _, _, _, _, _, _, _, _ => none
  | n + 1, h0, x0, x1, x2, x3, x4, x5, x6, x7 =>
    (q_gn h0 x0 12 20).bind fun v9 =>
    (q_ai h0 v9 1 ((3 : Int32))).bind fun v10 =>
    if v10 ≤ x7 then
      if x3 = 0 then none else
      if x5 ≤ x6 then
        m_X12_pence_141 h0 ((0 : Int32)) ((x4 / x3))
      else
        m_X12_pence_141 h0 ((1 : Int32)) ((x4 / x3))
    else
      (q_ca 12 h0 x0 (m_X12_workOf h0 x0 x7)).bind fun r11 =>
      if x3 = 0 then none else
      if x3 = 0 then none else
      if x3 = 0 then none else
      if (q_rmi x4 x3) < (q_rmi ((x1 * r11)) x3) then
        m_X12_pence_111 (m_X12_pence_51 n) h0 x0 x1 x2 x3 x4 ((x5 - ((x1 * r11) / x3))) x7 x6
      else
        if x3 = 0 then none else
        if x3 = 0 then none else
        if (q_rmi ((x1 * r11)) x3) = (q_rmi x4 x3) then
          if x2 ≤ x7 then
            m_X12_pence_115 (m_X12_pence_51 n) h0 x0 x1 x2 x3 x4 ((x5 - ((x1 * r11) / x3))) x7 x6
          else
            m_X12_pence_111 (m_X12_pence_51 n) h0 x0 x1 x2 x3 x4 ((x5 - ((x1 * r11) / x3))) x7 x6
        else
          m_X12_pence_115 (m_X12_pence_51 n) h0 x0 x1 x2 x3 x4 ((x5 - ((x1 * r11) / x3))) x7 x6
set_option maxRecDepth 20000 in
set_option maxHeartbeats 1000000 in
theorem v_X12_pence_51 {Γ : q_G} {sz : Nat} {h0 : q_H} {r : Int32} (C : q_C Γ cX12_pence RX12) (Rm : q_Rm Γ 9 2 43 0 0)  (K : narrow .int (.int r) = .int r → q_K Γ cX12_pence .ireturn sz h0 0 0 [.int r])  : ∀ (n : Nat) (x0 : Nat) (x1 : Int32) (x2 : Int32) (x3 : Int32) (x4 : Int32) (x5 : Int32) (x6 : Int32) (x7 : Int32), m_X12_pence_51 n h0 x0 x1 x2 x3 x4 x5 x6 x7 = some r → q_V Γ sz 0 0 h0 [(0, .ref x0), (1, .int x1), (2, .int x2), (3, .int x3), (4, .int x4), (5, .int x5), (6, .int x6), (7, .int x7)] [] 51 := by
  intro n
  induction n with
  | zero => intro x0 x1 x2 x3 x4 x5 x6 x7 hm; cases hm
  | succ n ih =>
    intro x0 x1 x2 x3 x4 x5 x6 x7 hm
    unfold m_X12_pence_51 at hm
    refine q_iload C (i := 7) 7 rfl (by decide +kernel) ?_
    refine q_aload_n C (k4 := 0) 0 rfl (by decide +kernel) ?_
    refine q_getn C fl_12_39 hm (by decide +kernel) (fun v9 hm => ?_)
    refine q_iconst C (n := 3) (v := 3) (by decide) (by decide +kernel) ?_
    refine q_ir C hm (by decide +kernel) (fun v10 hm => ?_)
    refine q_icmp_ge C (off := 66) 125 hm (by decide +kernel) (by decide) (fun _ hm => ?_) (fun _ hm => ?_)
    · refine q_iload C (i := 4) 4 rfl (by decide +kernel) ?_
      refine q_iload_n C (k4 := 3) 3 rfl (by decide +kernel) ?_
      refine q_idivc C hm (by decide +kernel) (fun hm => ?_)
      refine q_iload C (i := 6) 6 rfl (by decide +kernel) ?_
      refine q_iload C (i := 5) 5 rfl (by decide +kernel) ?_
      refine q_icmp_ge C (off := 7) 140 hm (by decide +kernel) (by decide) (fun _ hm => ?_) (fun _ hm => ?_)
      · refine q_iconst C (n := 0) (v := 0) (by decide) (by decide +kernel) ?_
        refine q_loc [] rfl ?_
        exact v_X12_pence_141 C Rm K _ _ hm
      · refine q_iconst C (n := 1) (v := 1) (by decide) (by decide +kernel) ?_
        refine q_goto C (off := 4) 141 (by decide +kernel) (by decide) ?_
        refine q_loc [] rfl ?_
        exact v_X12_pence_141 C Rm K _ _ hm
    · refine q_iload_n C (k4 := 1) 1 rfl (by decide +kernel) ?_
      refine q_aload_n C (k4 := 0) 0 rfl (by decide +kernel) ?_
      refine q_iload C (i := 7) 7 rfl (by decide +kernel) ?_
      refine q_viP C Rm (As := [.int x7]) (rest := [.int x1]) Y_X12_workOf Yv_X12_workOf ml_X12_287 (by decide) (by decide) hm (fun r9 e9 => c_X12_workOf _ _ _ _ _ _ _ _ e9) rfl rfl (Nat.le_of_ble_eq_true rfl) (by decide +kernel) (fun r11 hm z12 => ?_)
      refine q_imul C (by decide +kernel) ?_
      refine q_istore C Rm.1 (i := 8) (lv' := [(8, .int ((x1 * r11))), (0, .ref x0), (1, .int x1), (2, .int x2), (3, .int x3), (4, .int x4), (5, .int x5), (6, .int x6), (7, .int x7)]) rfl (by decide) (by decide +kernel) ?_
      refine q_iload C (i := 5) 6 rfl (by decide +kernel) ?_
      refine q_iload C (i := 8) 0 rfl (by decide +kernel) ?_
      refine q_iload_n C (k4 := 3) 4 rfl (by decide +kernel) ?_
      refine q_idivc C hm (by decide +kernel) (fun hm => ?_)
      refine q_isub C (by decide +kernel) ?_
      refine q_istore C Rm.1 (i := 5) (lv' := [(5, .int ((x5 - ((x1 * r11) / x3)))), (8, .int ((x1 * r11))), (0, .ref x0), (1, .int x1), (2, .int x2), (3, .int x3), (4, .int x4), (6, .int x6), (7, .int x7)]) rfl (by decide) (by decide +kernel) ?_
      refine q_iload C (i := 6) 7 rfl (by decide +kernel) ?_
      refine q_iload C (i := 8) 1 rfl (by decide +kernel) ?_
      refine q_iload_n C (k4 := 3) 5 rfl (by decide +kernel) ?_
      refine q_iremc C hm (by decide +kernel) (fun hm => ?_)
      refine q_iload C (i := 4) 6 rfl (by decide +kernel) ?_
      refine q_iload_n C (k4 := 3) 5 rfl (by decide +kernel) ?_
      refine q_iremc C hm (by decide +kernel) (fun hm => ?_)
      refine q_icmp_gt C (off := 20) 111 hm (by decide +kernel) (by decide) (fun _ hm => ?_) (fun _ hm => ?_)
      · refine q_loc [2, 3, 4, 5, 6, 0, 8] rfl ?_
        exact v_X12_pence_111 C Rm K ih _ _ _ _ _ _ _ _ hm
      · refine q_iload C (i := 8) 1 rfl (by decide +kernel) ?_
        refine q_iload_n C (k4 := 3) 5 rfl (by decide +kernel) ?_
        refine q_iremc C hm (by decide +kernel) (fun hm => ?_)
        refine q_iload C (i := 4) 6 rfl (by decide +kernel) ?_
        refine q_iload_n C (k4 := 3) 5 rfl (by decide +kernel) ?_
        refine q_iremc C hm (by decide +kernel) (fun hm => ?_)
        refine q_icmp_ne C (off := 13) 115 hm (by decide +kernel) (by decide) (fun _ hm => ?_) (fun _ hm => ?_)
        · refine q_loc [2, 3, 4, 5, 6, 0, 8] rfl ?_
          exact v_X12_pence_115 C Rm K ih _ _ _ _ _ _ _ _ hm
        · refine q_iload C (i := 7) 8 rfl (by decide +kernel) ?_
          refine q_iload_n C (k4 := 2) 4 rfl (by decide +kernel) ?_
          refine q_icmp_ge C (off := 7) 115 hm (by decide +kernel) (by decide) (fun _ hm => ?_) (fun _ hm => ?_)
          · refine q_loc [2, 3, 4, 5, 6, 0, 8] rfl ?_
            exact v_X12_pence_115 C Rm K ih _ _ _ _ _ _ _ _ hm
          · refine q_loc [2, 3, 4, 5, 6, 0, 8] rfl ?_
            exact v_X12_pence_111 C Rm K ih _ _ _ _ _ _ _ _ hm
def m_X12_pence (h0 : q_H) (a0 : Nat) (a1 : Int32) (a2 : Int32) : Option Int32 :=
  (q_ca 12 h0 a0 (m_X12_isPuller h0 a0 a2)).bind fun r1 =>
  if r1 = 0 then
    some ((-1 : Int32))
  else
    (m_X12_in a1.toInt64 ((0 : Int64)) ((9999 : Int64))).bind fun r3 =>
    if r3 = 0 then
      some ((-1 : Int32))
    else
      (q_ca 12 h0 a0 (m_X12_workAll h0 a0)).bind fun r5 =>
      if r5 = 0 then
        some ((0 : Int32))
      else
        (q_ca 12 h0 a0 (m_X12_workOf h0 a0 a2)).bind fun r7 =>
        m_X12_pence_51 q_fu h0 a0 a1 a2 r5 ((a1 * r7)) a1 ((0 : Int32)) ((0 : Int32))
set_option maxRecDepth 20000 in
set_option maxHeartbeats 1000000 in
theorem c_X12_pence (l : Launch) (base : Nat) (D : va_G) (tc : Nat → ClassId) (sz : Nat) (h0 : q_H) (a0 : Nat) (a1 : Int32) (a2 : Int32) {r : Int32} (hm : m_X12_pence h0 a0 a1 a2 = some r) : q_M l yX12_pence cX12_pence 9 (some .int) 2 43 0 0 base D tc [.ref a0, .int a1, .int a2] sz h0 (some (.int r)) sz h0 := by
  refine q_starti (by decide) (Nat.le_of_ble_eq_true rfl) (fun Γ B K => ?_)
  obtain ⟨C, Rm, -⟩ := B
  have C : q_C Γ cX12_pence RX12 := C
  show q_V Γ sz 0 0 h0 [(0, .ref a0), (1, .int a1), (2, .int a2)] [] 0
  unfold m_X12_pence at hm
  refine q_aload_n C (k4 := 0) 0 rfl (by decide +kernel) ?_
  refine q_iload_n C (k4 := 2) 2 rfl (by decide +kernel) ?_
  refine q_viP C Rm (As := [.int a2]) (rest := []) Y_X12_isPuller Yv_X12_isPuller ml_X12_278 (by decide) (by decide) hm (fun r9 e9 => c_X12_isPuller _ _ _ _ _ _ _ _ e9) rfl rfl (Nat.le_of_ble_eq_true rfl) (by decide +kernel) (fun r1 hm z2 => ?_)
  refine q_if_eq C (off := 15) 20 hm (by decide +kernel) (by decide) (fun _ hm => ?_) (fun _ hm => ?_)
  · refine q_iconst C (n := (-1)) (v := (-1)) (by decide) (by decide +kernel) ?_
    exact q_riP hm K rfl (by decide +kernel)
  · refine q_iload_n C (k4 := 1) 1 rfl (by decide +kernel) ?_
    refine q_i2l C (by decide +kernel) ?_
    refine q_lconst C (n := 0) (v := 0) (by decide) (by decide +kernel) ?_
    refine q_ldc2 C (idx := 420) (v := 9999) (q_m7 194 rfl rfl) (by decide +kernel) ?_
    refine q_siP C Rm (As := [.long a1.toInt64, .long ((0 : Int64)), .long ((9999 : Int64))]) (rest := []) Y_X12_in Ys_X12_in ml_X12_121 (by decide) (by decide) hm (fun r9 e9 => c_X12_in _ _ _ _ _ _ _ _ _ e9) rfl rfl (Nat.le_of_ble_eq_true rfl) (by decide +kernel) (fun r3 hm z4 => ?_)
    refine q_if_ne C (off := 5) 22 hm (by decide +kernel) (by decide) (fun _ hm => ?_) (fun _ hm => ?_)
    · refine q_aload_n C (k4 := 0) 0 rfl (by decide +kernel) ?_
      refine q_viP C Rm (As := []) (rest := []) Y_X12_workAll Yv_X12_workAll ml_X12_422 (by decide) (by decide) hm (fun r9 e9 => c_X12_workAll _ _ _ _ _ _ _ e9) rfl rfl (Nat.le_of_ble_eq_true rfl) (by decide +kernel) (fun r5 hm z6 => ?_)
      refine q_istore_n C Rm.1 (k4 := 3) (i := 3) rfl (lv' := [(3, .int r5), (0, .ref a0), (1, .int a1), (2, .int a2)]) rfl (by decide) (by decide +kernel) ?_
      refine q_iload_n C (k4 := 3) 0 rfl (by decide +kernel) ?_
      refine q_if_ne C (off := 5) 33 hm (by decide +kernel) (by decide) (fun _ hm => ?_) (fun _ hm => ?_)
      · refine q_iload_n C (k4 := 1) 2 rfl (by decide +kernel) ?_
        refine q_aload_n C (k4 := 0) 1 rfl (by decide +kernel) ?_
        refine q_iload_n C (k4 := 2) 3 rfl (by decide +kernel) ?_
        refine q_viP C Rm (As := [.int a2]) (rest := [.int a1]) Y_X12_workOf Yv_X12_workOf ml_X12_287 (by decide) (by decide) hm (fun r9 e9 => c_X12_workOf _ _ _ _ _ _ _ _ e9) rfl rfl (Nat.le_of_ble_eq_true rfl) (by decide +kernel) (fun r7 hm z8 => ?_)
        refine q_imul C (by decide +kernel) ?_
        refine q_istore C Rm.1 (i := 4) (lv' := [(4, .int ((a1 * r7))), (3, .int r5), (0, .ref a0), (1, .int a1), (2, .int a2)]) rfl (by decide) (by decide +kernel) ?_
        refine q_iload_n C (k4 := 1) 3 rfl (by decide +kernel) ?_
        refine q_istore C Rm.1 (i := 5) (lv' := [(5, .int a1), (4, .int ((a1 * r7))), (3, .int r5), (0, .ref a0), (1, .int a1), (2, .int a2)]) rfl (by decide) (by decide +kernel) ?_
        refine q_iconst C (n := 0) (v := 0) (by decide) (by decide +kernel) ?_
        refine q_istore C Rm.1 (i := 6) (lv' := [(6, .int ((0 : Int32))), (5, .int a1), (4, .int ((a1 * r7))), (3, .int r5), (0, .ref a0), (1, .int a1), (2, .int a2)]) rfl (by decide) (by decide +kernel) ?_
        refine q_iconst C (n := 0) (v := 0) (by decide) (by decide +kernel) ?_
        refine q_istore C Rm.1 (i := 7) (lv' := [(7, .int ((0 : Int32))), (6, .int ((0 : Int32))), (5, .int a1), (4, .int ((a1 * r7))), (3, .int r5), (0, .ref a0), (1, .int a1), (2, .int a2)]) rfl (by decide) (by decide +kernel) ?_
        refine q_loc [5, 6, 7, 4, 3, 2, 1, 0] rfl ?_
        exact v_X12_pence_51 C Rm K _ _ _ _ _ _ _ _ _ hm
      · refine q_iconst C (n := 0) (v := 0) (by decide) (by decide +kernel) ?_
        exact q_riP hm K rfl (by decide +kernel)
    · refine q_iconst C (n := (-1)) (v := (-1)) (by decide) (by decide +kernel) ?_
      exact q_riP hm K rfl (by decide +kernel)
def m_X12_note (h : q_H) (a0 : Nat) (a1 : Int32) (a2 : Int32) : Option (Int32 × q_H) :=
  if a1 = (-1 : Int32) then
    (q_gn h a0 12 20).bind fun v20 =>
    (q_si h v20 1 ((105 : Int32)) ((0 : Int32))).bind fun h21 =>
    some ((0 : Int32), h21)
  else
    (q_ca 12 h a0 (m_X12_isRope h a0)).bind fun r1 =>
    if r1 = 0 then
      some ((-2 : Int32), h)
    else
      (m_X12_in a1.toInt64 ((0 : Int64)) ((60 : Int64))).bind fun r3 =>
      if r3 = 0 then
        some ((-2 : Int32), h)
      else
        (m_X12_in a2.toInt64 ((0 : Int64)) ((200 : Int64))).bind fun r5 =>
        if r5 = 0 then
          some ((-2 : Int32), h)
        else
          (q_gn h a0 12 20).bind fun v7 =>
          (q_ai h v7 1 ((105 : Int32))).bind fun v8 =>
          if v8 = (10 : Int32) then
            some ((-2 : Int32), h)
          else
            (q_gn h a0 12 20).bind fun v9 =>
            (q_ai h v9 1 ((105 : Int32))).bind fun v10 =>
            (q_gn h a0 12 20).bind fun v11 =>
            (q_si h v11 1 (((85 : Int32) + ((2 : Int32) * v10))) a1).bind fun h12 =>
            (q_gn h12 a0 12 20).bind fun v13 =>
            (q_si h12 v13 1 ((((85 : Int32) + ((2 : Int32) * v10)) + (1 : Int32))) a2).bind fun h14 =>
            (q_gn h14 a0 12 20).bind fun v15 =>
            (q_ai h14 v15 1 ((105 : Int32))).bind fun v16 =>
            (q_si h14 v15 1 ((105 : Int32)) ((v16 + (1 : Int32)))).bind fun h17 =>
            (q_gn h17 a0 12 20).bind fun v18 =>
            (q_ai h17 v18 1 ((105 : Int32))).bind fun v19 =>
            some (v19, h17)
set_option maxRecDepth 20000 in
set_option maxHeartbeats 1000000 in
theorem c_X12_note (l : Launch) (base : Nat) (D : va_G) (tc : Nat → ClassId) (sz : Nat) (h : q_H) (a0 : Nat) (a1 : Int32) (a2 : Int32) {r : Int32} {h' : q_H} (hm : m_X12_note h a0 a1 a2 = some (r, h')) : q_M l yX12_note cX12_note 4 (some .int) 1 25 0 0 base D tc [.ref a0, .int a1, .int a2] sz h (some (.int r)) sz h' := by
  refine q_starti (by decide) (Nat.le_of_ble_eq_true rfl) (fun Γ B K => ?_)
  obtain ⟨C, Rm, -⟩ := B
  have C : q_C Γ cX12_note RX12 := C
  show q_V Γ sz 0 0 h [(0, .ref a0), (1, .int a1), (2, .int a2)] [] 0
  unfold m_X12_note at hm
  refine q_iload_n C (k4 := 1) 1 rfl (by decide +kernel) ?_
  refine q_iconst C (n := (-1)) (v := (-1)) (by decide) (by decide +kernel) ?_
  refine q_icmp_ne C (off := 13) 15 hm (by decide +kernel) (by decide) (fun _ hm => ?_) (fun _ hm => ?_)
  · refine q_aload_n C (k4 := 0) 0 rfl (by decide +kernel) ?_
    refine q_viP C Rm (As := []) (rest := []) Y_X12_isRope Yv_X12_isRope ml_X12_299 (by decide) (by decide) hm (fun r9 e9 => c_X12_isRope _ _ _ _ _ _ _ e9) rfl rfl (Nat.le_of_ble_eq_true rfl) (by decide +kernel) (fun r1 hm z2 => ?_)
    refine q_if_eq C (off := 39) 58 hm (by decide +kernel) (by decide) (fun _ hm => ?_) (fun _ hm => ?_)
    · refine q_bipush C (n := (-2)) (v := (-2)) (by decide) (by decide +kernel) ?_
      exact q_riS hm K rfl (by decide +kernel)
    · refine q_iload_n C (k4 := 1) 1 rfl (by decide +kernel) ?_
      refine q_i2l C (by decide +kernel) ?_
      refine q_lconst C (n := 0) (v := 0) (by decide) (by decide +kernel) ?_
      refine q_ldc2 C (idx := 425) (v := 60) (q_m7 203 rfl rfl) (by decide +kernel) ?_
      refine q_siP C Rm (As := [.long a1.toInt64, .long ((0 : Int64)), .long ((60 : Int64))]) (rest := []) Y_X12_in Ys_X12_in ml_X12_121 (by decide) (by decide) hm (fun r9 e9 => c_X12_in _ _ _ _ _ _ _ _ _ e9) rfl rfl (Nat.le_of_ble_eq_true rfl) (by decide +kernel) (fun r3 hm z4 => ?_)
      refine q_if_eq C (off := 27) 58 hm (by decide +kernel) (by decide) (fun _ hm => ?_) (fun _ hm => ?_)
      · refine q_bipush C (n := (-2)) (v := (-2)) (by decide) (by decide +kernel) ?_
        exact q_riS hm K rfl (by decide +kernel)
      · refine q_iload_n C (k4 := 2) 2 rfl (by decide +kernel) ?_
        refine q_i2l C (by decide +kernel) ?_
        refine q_lconst C (n := 0) (v := 0) (by decide) (by decide +kernel) ?_
        refine q_ldc2 C (idx := 427) (v := 200) (q_m7 204 rfl rfl) (by decide +kernel) ?_
        refine q_siP C Rm (As := [.long a2.toInt64, .long ((0 : Int64)), .long ((200 : Int64))]) (rest := []) Y_X12_in Ys_X12_in ml_X12_121 (by decide) (by decide) hm (fun r9 e9 => c_X12_in _ _ _ _ _ _ _ _ _ e9) rfl rfl (Nat.le_of_ble_eq_true rfl) (by decide +kernel) (fun r5 hm z6 => ?_)
        refine q_if_eq C (off := 15) 58 hm (by decide +kernel) (by decide) (fun _ hm => ?_) (fun _ hm => ?_)
        · refine q_bipush C (n := (-2)) (v := (-2)) (by decide) (by decide +kernel) ?_
          exact q_riS hm K rfl (by decide +kernel)
        · refine q_aload_n C (k4 := 0) 0 rfl (by decide +kernel) ?_
          refine q_getn C fl_12_39 hm (by decide +kernel) (fun v7 hm => ?_)
          refine q_bipush C (n := 105) (v := 105) (by decide) (by decide +kernel) ?_
          refine q_ir C hm (by decide +kernel) (fun v8 hm => ?_)
          refine q_bipush C (n := 10) (v := 10) (by decide) (by decide +kernel) ?_
          refine q_icmp_ne C (off := 6) 61 hm (by decide +kernel) (by decide) (fun _ hm => ?_) (fun _ hm => ?_)
          · refine q_bipush C (n := 85) (v := 85) (by decide) (by decide +kernel) ?_
            refine q_iconst C (n := 2) (v := 2) (by decide) (by decide +kernel) ?_
            refine q_aload_n C (k4 := 0) 0 rfl (by decide +kernel) ?_
            refine q_getn C fl_12_39 hm (by decide +kernel) (fun v9 hm => ?_)
            refine q_bipush C (n := 105) (v := 105) (by decide) (by decide +kernel) ?_
            refine q_ir C hm (by decide +kernel) (fun v10 hm => ?_)
            refine q_imul C (by decide +kernel) ?_
            refine q_iadd C (by decide +kernel) ?_
            refine q_istore_n C Rm.1 (k4 := 3) (i := 3) rfl (lv' := [(3, .int (((85 : Int32) + ((2 : Int32) * v10)))), (0, .ref a0), (1, .int a1), (2, .int a2)]) rfl (by decide) (by decide +kernel) ?_
            refine q_aload_n C (k4 := 0) 1 rfl (by decide +kernel) ?_
            refine q_getn C fl_12_39 hm (by decide +kernel) (fun v11 hm => ?_)
            refine q_iload_n C (k4 := 3) 0 rfl (by decide +kernel) ?_
            refine q_iload_n C (k4 := 1) 2 rfl (by decide +kernel) ?_
            refine q_iw C hm (by decide +kernel) (fun h12 hm => ?_)
            refine q_aload_n C (k4 := 0) 1 rfl (by decide +kernel) ?_
            refine q_getn C fl_12_39 hm (by decide +kernel) (fun v13 hm => ?_)
            refine q_iload_n C (k4 := 3) 0 rfl (by decide +kernel) ?_
            refine q_iconst C (n := 1) (v := 1) (by decide) (by decide +kernel) ?_
            refine q_iadd C (by decide +kernel) ?_
            refine q_iload_n C (k4 := 2) 3 rfl (by decide +kernel) ?_
            refine q_iw C hm (by decide +kernel) (fun h14 hm => ?_)
            refine q_aload_n C (k4 := 0) 1 rfl (by decide +kernel) ?_
            refine q_getn C fl_12_39 hm (by decide +kernel) (fun v15 hm => ?_)
            refine q_bipush C (n := 105) (v := 105) (by decide) (by decide +kernel) ?_
            refine q_dup2 C rfl rfl (by decide +kernel) ?_
            refine q_ir C hm (by decide +kernel) (fun v16 hm => ?_)
            refine q_iconst C (n := 1) (v := 1) (by decide) (by decide +kernel) ?_
            refine q_iadd C (by decide +kernel) ?_
            refine q_iw C hm (by decide +kernel) (fun h17 hm => ?_)
            refine q_aload_n C (k4 := 0) 1 rfl (by decide +kernel) ?_
            refine q_getn C fl_12_39 hm (by decide +kernel) (fun v18 hm => ?_)
            refine q_bipush C (n := 105) (v := 105) (by decide) (by decide +kernel) ?_
            refine q_ir C hm (by decide +kernel) (fun v19 hm => ?_)
            exact q_riS hm K rfl (by decide +kernel)
          · refine q_bipush C (n := (-2)) (v := (-2)) (by decide) (by decide +kernel) ?_
            exact q_riS hm K rfl (by decide +kernel)
  · refine q_aload_n C (k4 := 0) 0 rfl (by decide +kernel) ?_
    refine q_getn C fl_12_39 hm (by decide +kernel) (fun v20 hm => ?_)
    refine q_bipush C (n := 105) (v := 105) (by decide) (by decide +kernel) ?_
    refine q_iconst C (n := 0) (v := 0) (by decide) (by decide +kernel) ?_
    refine q_iw C hm (by decide +kernel) (fun h21 hm => ?_)
    refine q_iconst C (n := 0) (v := 0) (by decide) (by decide +kernel) ?_
    exact q_riS hm K rfl (by decide +kernel)
def m_X12_areNotesSo_48 (k2 : q_H → Nat → Int32 → Int32 → Option Int32) (h0 : q_H) (x0 : Nat) (x1 : Int32) (x2 : Int32) : Option Int32 :=
  k2 h0 x0 x1 ((x2 + (2 : Int32)))
set_option maxRecDepth 20000 in
set_option maxHeartbeats 1000000 in
theorem v_X12_areNotesSo_48 {Γ : q_G} {sz : Nat} {h0 : q_H} {r : Int32} (C : q_C Γ cX12_areNotesSo RX12) (Rm : q_Rm Γ 3 2 40 0 0) {k2 : q_H → Nat → Int32 → Int32 → Option Int32} (K : narrow .boolean (.int r) = .int r → q_K Γ cX12_areNotesSo .ireturn sz h0 0 0 [.int r]) (hk2 : ∀ (x0 : Nat) (x1 : Int32) (x2 : Int32), k2 h0 x0 x1 x2 = some r → q_V Γ sz 0 0 h0 [(0, .ref x0), (1, .int x1), (2, .int x2)] [] 2) : ∀ (x0 : Nat) (x1 : Int32) (x2 : Int32), m_X12_areNotesSo_48 k2 h0 x0 x1 x2 = some r → q_V Γ sz 0 0 h0 [(0, .ref x0), (1, .int x1), (2, .int x2)] [] 48 := by
  intro x0 x1 x2 hm
  unfold m_X12_areNotesSo_48 at hm
  refine q_iinc C Rm.1 (i := 2) (n := 2) (v := (x2 + (2 : Int32))) 2 rfl (q_inc _ (by decide)) (lv' := [(2, .int ((x2 + (2 : Int32)))), (0, .ref x0), (1, .int x1)]) rfl (by decide) (by decide +kernel) ?_
  refine q_goto C (off := -49) 2 (by decide +kernel) (by decide) ?_
  refine q_loc [1, 2, 0] rfl ?_
  exact hk2 _ _ _ hm
def m_X12_areNotesSo_2  : Nat → q_H → Nat → Int32 → Int32 → Option Int32
  | 0, _, _, _, _ => none
  | n + 1, h0, x0, x1, x2 =>
    (q_gn h0 x0 12 20).bind fun v1 =>
    (q_ai h0 v1 1 ((105 : Int32))).bind fun v2 =>
    if ((2 : Int32) * v2) ≤ x2 then
      some ((1 : Int32))
    else
      (q_gn h0 x0 12 20).bind fun v3 =>
      (q_ai h0 v3 1 (((85 : Int32) + x2))).bind fun v4 =>
      if v4 = x1 then
        (q_ca 12 h0 x0 (m_X12_ribbon h0 x0)).bind fun r5 =>
        (q_gn h0 x0 12 20).bind fun v7 =>
        (q_ai h0 v7 1 ((((85 : Int32) + x2) + (1 : Int32)))).bind fun v8 =>
        if r5 = v8 then
          m_X12_areNotesSo_48 (m_X12_areNotesSo_2 n) h0 x0 x1 x2
        else
          some ((0 : Int32))
      else
        m_X12_areNotesSo_48 (m_X12_areNotesSo_2 n) h0 x0 x1 x2
set_option maxRecDepth 20000 in
set_option maxHeartbeats 1000000 in
theorem v_X12_areNotesSo_2 {Γ : q_G} {sz : Nat} {h0 : q_H} {r : Int32} (C : q_C Γ cX12_areNotesSo RX12) (Rm : q_Rm Γ 3 2 40 0 0)  (K : narrow .boolean (.int r) = .int r → q_K Γ cX12_areNotesSo .ireturn sz h0 0 0 [.int r])  : ∀ (n : Nat) (x0 : Nat) (x1 : Int32) (x2 : Int32), m_X12_areNotesSo_2 n h0 x0 x1 x2 = some r → q_V Γ sz 0 0 h0 [(0, .ref x0), (1, .int x1), (2, .int x2)] [] 2 := by
  intro n
  induction n with
  | zero => intro x0 x1 x2 hm; cases hm
  | succ n ih =>
    intro x0 x1 x2 hm
    unfold m_X12_areNotesSo_2 at hm
    refine q_iload_n C (k4 := 2) 2 rfl (by decide +kernel) ?_
    refine q_iconst C (n := 2) (v := 2) (by decide) (by decide +kernel) ?_
    refine q_aload_n C (k4 := 0) 0 rfl (by decide +kernel) ?_
    refine q_getn C fl_12_39 hm (by decide +kernel) (fun v1 hm => ?_)
    refine q_bipush C (n := 105) (v := 105) (by decide) (by decide +kernel) ?_
    refine q_ir C hm (by decide +kernel) (fun v2 hm => ?_)
    refine q_imul C (by decide +kernel) ?_
    refine q_icmp_ge C (off := 42) 54 hm (by decide +kernel) (by decide) (fun _ hm => ?_) (fun _ hm => ?_)
    · refine q_iconst C (n := 1) (v := 1) (by decide) (by decide +kernel) ?_
      exact q_riP hm K q_z1 (by decide +kernel)
    · refine q_aload_n C (k4 := 0) 0 rfl (by decide +kernel) ?_
      refine q_getn C fl_12_39 hm (by decide +kernel) (fun v3 hm => ?_)
      refine q_bipush C (n := 85) (v := 85) (by decide) (by decide +kernel) ?_
      refine q_iload_n C (k4 := 2) 2 rfl (by decide +kernel) ?_
      refine q_iadd C (by decide +kernel) ?_
      refine q_ir C hm (by decide +kernel) (fun v4 hm => ?_)
      refine q_iload_n C (k4 := 1) 1 rfl (by decide +kernel) ?_
      refine q_icmp_ne C (off := 23) 48 hm (by decide +kernel) (by decide) (fun _ hm => ?_) (fun _ hm => ?_)
      · exact v_X12_areNotesSo_48 C Rm K ih _ _ _ hm
      · refine q_aload_n C (k4 := 0) 0 rfl (by decide +kernel) ?_
        refine q_viP C Rm (As := []) (rest := []) Y_X12_ribbon Yv_X12_ribbon ml_X12_353 (by decide) (by decide) hm (fun r9 e9 => c_X12_ribbon _ _ _ _ _ _ _ e9) rfl rfl (Nat.le_of_ble_eq_true rfl) (by decide +kernel) (fun r5 hm z6 => ?_)
        refine q_aload_n C (k4 := 0) 0 rfl (by decide +kernel) ?_
        refine q_getn C fl_12_39 hm (by decide +kernel) (fun v7 hm => ?_)
        refine q_bipush C (n := 85) (v := 85) (by decide) (by decide +kernel) ?_
        refine q_iload_n C (k4 := 2) 2 rfl (by decide +kernel) ?_
        refine q_iadd C (by decide +kernel) ?_
        refine q_iconst C (n := 1) (v := 1) (by decide) (by decide +kernel) ?_
        refine q_iadd C (by decide +kernel) ?_
        refine q_ir C hm (by decide +kernel) (fun v8 hm => ?_)
        refine q_icmp_eq C (off := 5) 48 hm (by decide +kernel) (by decide) (fun _ hm => ?_) (fun _ hm => ?_)
        · exact v_X12_areNotesSo_48 C Rm K ih _ _ _ hm
        · refine q_iconst C (n := 0) (v := 0) (by decide) (by decide +kernel) ?_
          exact q_riP hm K q_z0 (by decide +kernel)
def m_X12_areNotesSo (h0 : q_H) (a0 : Nat) (a1 : Int32) : Option Int32 :=
  m_X12_areNotesSo_2 q_fu h0 a0 a1 ((0 : Int32))
set_option maxRecDepth 20000 in
set_option maxHeartbeats 1000000 in
theorem c_X12_areNotesSo (l : Launch) (base : Nat) (D : va_G) (tc : Nat → ClassId) (sz : Nat) (h0 : q_H) (a0 : Nat) (a1 : Int32) {r : Int32} (hm : m_X12_areNotesSo h0 a0 a1 = some r) : q_M l yX12_areNotesSo cX12_areNotesSo 3 (some .boolean) 2 40 0 0 base D tc [.ref a0, .int a1] sz h0 (some (.int r)) sz h0 := by
  refine q_starti (by decide) (Nat.le_of_ble_eq_true rfl) (fun Γ B K => ?_)
  obtain ⟨C, Rm, -⟩ := B
  have C : q_C Γ cX12_areNotesSo RX12 := C
  show q_V Γ sz 0 0 h0 [(0, .ref a0), (1, .int a1)] [] 0
  unfold m_X12_areNotesSo at hm
  refine q_iconst C (n := 0) (v := 0) (by decide) (by decide +kernel) ?_
  refine q_istore_n C Rm.1 (k4 := 2) (i := 2) rfl (lv' := [(2, .int ((0 : Int32))), (0, .ref a0), (1, .int a1)]) rfl (by decide) (by decide +kernel) ?_
  refine q_loc [1, 2, 0] rfl ?_
  exact v_X12_areNotesSo_2 C Rm K _ _ _ _ hm
def m_X12_areAllSo_31 (k4 : q_H → Nat → Int32 → Int32 → Int32 → Option (Int32 × q_H)) (h : q_H) (x0 : Nat) (x1 : Int32) (x3 : Int32) (s0 : Int32) : Option (Int32 × q_H) :=
  (q_gn h x0 12 31).bind fun v5 =>
  (q_gn h x0 12 20).bind fun v6 =>
  (q_ai h v6 1 ((11 : Int32))).bind fun v7 =>
  (q_si h v5 1 ((((61 : Int32) * x1) + x3)) v7).bind fun h8 =>
  k4 h8 x0 x1 s0 ((x3 + (1 : Int32)))
set_option maxRecDepth 20000 in
set_option maxHeartbeats 1000000 in
theorem v_X12_areAllSo_31 {Γ : q_G} {sz : Nat} {r : Int32} {h' : q_H} (C : q_C Γ cX12_areAllSo RX12) (Rm : q_Rm Γ 4 6 144 0 0) {k4 : q_H → Nat → Int32 → Int32 → Int32 → Option (Int32 × q_H)} (K : narrow .boolean (.int r) = .int r → q_K Γ cX12_areAllSo .ireturn sz h' 0 0 [.int r]) (hk4 : ∀ (h : q_H) (x0 : Nat) (x1 : Int32) (x2 : Int32) (x3 : Int32), k4 h x0 x1 x2 x3 = some (r, h') → q_V Γ sz 0 0 h [(0, .ref x0), (1, .int x1), (2, .int x2), (3, .int x3)] [] 4) : ∀ (h : q_H) (x0 : Nat) (x1 : Int32) (x3 : Int32) (s0 : Int32), m_X12_areAllSo_31 k4 h x0 x1 x3 s0 = some (r, h') → q_V Γ sz 0 0 h [(0, .ref x0), (1, .int x1), (3, .int x3)] [.int s0] 31 := by
  intro h x0 x1 x3 s0 hm
  unfold m_X12_areAllSo_31 at hm
  refine q_istore_n C Rm.1 (k4 := 2) (i := 2) rfl (lv' := [(2, .int s0), (0, .ref x0), (1, .int x1), (3, .int x3)]) rfl (by decide) (by decide +kernel) ?_
  refine q_aload_n C (k4 := 0) 1 rfl (by decide +kernel) ?_
  refine q_getn C fl_12_68 hm (by decide +kernel) (fun v5 hm => ?_)
  refine q_bipush C (n := 61) (v := 61) (by decide) (by decide +kernel) ?_
  refine q_iload_n C (k4 := 1) 2 rfl (by decide +kernel) ?_
  refine q_imul C (by decide +kernel) ?_
  refine q_iload_n C (k4 := 3) 3 rfl (by decide +kernel) ?_
  refine q_iadd C (by decide +kernel) ?_
  refine q_aload_n C (k4 := 0) 1 rfl (by decide +kernel) ?_
  refine q_getn C fl_12_39 hm (by decide +kernel) (fun v6 hm => ?_)
  refine q_bipush C (n := 11) (v := 11) (by decide) (by decide +kernel) ?_
  refine q_ir C hm (by decide +kernel) (fun v7 hm => ?_)
  refine q_iw C hm (by decide +kernel) (fun h8 hm => ?_)
  refine q_iinc C Rm.1 (i := 3) (n := 1) (v := (x3 + (1 : Int32))) 3 rfl (q_inc _ (by decide)) (lv' := [(3, .int ((x3 + (1 : Int32)))), (2, .int s0), (0, .ref x0), (1, .int x1)]) rfl (by decide) (by decide +kernel) ?_
  refine q_goto C (off := -49) 4 (by decide +kernel) (by decide) ?_
  refine q_loc [2, 3, 1, 0] rfl ?_
  exact hk4 _ _ _ _ _ hm
def m_X12_areAllSo_30 (k4 : q_H → Nat → Int32 → Int32 → Int32 → Option (Int32 × q_H)) (h : q_H) (x0 : Nat) (x1 : Int32) (x3 : Int32) : Option (Int32 × q_H) :=
  m_X12_areAllSo_31 k4 h x0 x1 x3 ((0 : Int32))
set_option maxRecDepth 20000 in
set_option maxHeartbeats 1000000 in
theorem v_X12_areAllSo_30 {Γ : q_G} {sz : Nat} {r : Int32} {h' : q_H} (C : q_C Γ cX12_areAllSo RX12) (Rm : q_Rm Γ 4 6 144 0 0) {k4 : q_H → Nat → Int32 → Int32 → Int32 → Option (Int32 × q_H)} (K : narrow .boolean (.int r) = .int r → q_K Γ cX12_areAllSo .ireturn sz h' 0 0 [.int r]) (hk4 : ∀ (h : q_H) (x0 : Nat) (x1 : Int32) (x2 : Int32) (x3 : Int32), k4 h x0 x1 x2 x3 = some (r, h') → q_V Γ sz 0 0 h [(0, .ref x0), (1, .int x1), (2, .int x2), (3, .int x3)] [] 4) : ∀ (h : q_H) (x0 : Nat) (x1 : Int32) (x3 : Int32), m_X12_areAllSo_30 k4 h x0 x1 x3 = some (r, h') → q_V Γ sz 0 0 h [(0, .ref x0), (1, .int x1), (3, .int x3)] [] 30 := by
  intro h x0 x1 x3 hm
  unfold m_X12_areAllSo_30 at hm
  refine q_iconst C (n := 0) (v := 0) (by decide) (by decide +kernel) ?_
  exact v_X12_areAllSo_31 C Rm K hk4 _ _ _ _ _ hm
def m_X12_areAllSo_4  : Nat → q_H → Nat → Int32 → Int32 → Int32 → Option (Int32 × q_H)
  | 0, _, _, _, _, _ => none
  | n + 1, h, x0, x1, x2, x3 =>
    if (60 : Int32) < x3 then
      (q_zc x2).bind fun _ =>
      some (x2, h)
    else
      (q_ca 12 h x0 (m_X12_passes h x0)).bind fun h2 =>
      if x2 = 0 then
        m_X12_areAllSo_30 (m_X12_areAllSo_4 n) h2 x0 x1 x3
      else
        (q_ca 12 h2 x0 (m_X12_areNotesSo h2 x0 x3)).bind fun r3 =>
        if r3 = 0 then
          m_X12_areAllSo_30 (m_X12_areAllSo_4 n) h2 x0 x1 x3
        else
          m_X12_areAllSo_31 (m_X12_areAllSo_4 n) h2 x0 x1 x3 ((1 : Int32))
set_option maxRecDepth 20000 in
set_option maxHeartbeats 1000000 in
theorem v_X12_areAllSo_4 {Γ : q_G} {sz : Nat} {r : Int32} {h' : q_H} (C : q_C Γ cX12_areAllSo RX12) (Rm : q_Rm Γ 4 6 144 0 0)  (K : narrow .boolean (.int r) = .int r → q_K Γ cX12_areAllSo .ireturn sz h' 0 0 [.int r])  : ∀ (n : Nat) (h : q_H) (x0 : Nat) (x1 : Int32) (x2 : Int32) (x3 : Int32), m_X12_areAllSo_4 n h x0 x1 x2 x3 = some (r, h') → q_V Γ sz 0 0 h [(0, .ref x0), (1, .int x1), (2, .int x2), (3, .int x3)] [] 4 := by
  intro n
  induction n with
  | zero => intro h x0 x1 x2 x3 hm; cases hm
  | succ n ih =>
    intro h x0 x1 x2 x3 hm
    unfold m_X12_areAllSo_4 at hm
    refine q_iload_n C (k4 := 3) 3 rfl (by decide +kernel) ?_
    refine q_bipush C (n := 60) (v := 60) (by decide) (by decide +kernel) ?_
    refine q_icmp_gt C (off := 49) 56 hm (by decide +kernel) (by decide) (fun _ hm => ?_) (fun _ hm => ?_)
    · refine q_iload_n C (k4 := 2) 2 rfl (by decide +kernel) ?_
      obtain ⟨_, e9, hm⟩ := q_b hm
      exact q_riS hm K (q_zc_spec e9).2 (by decide +kernel)
    · refine q_aload_n C (k4 := 0) 0 rfl (by decide +kernel) ?_
      refine q_vvS C Rm (As := []) (rest := []) Y_X12_passes Yv_X12_passes ml_X12_347 (by decide) (by decide) hm (fun h2 e9 => c_X12_passes _ _ _ _ _ _ _ e9) rfl rfl (Nat.le_of_ble_eq_true rfl) (by decide +kernel) (fun h2 hm => ?_)
      refine q_iload_n C (k4 := 2) 2 rfl (by decide +kernel) ?_
      refine q_if_eq C (off := 15) 30 hm (by decide +kernel) (by decide) (fun _ hm => ?_) (fun _ hm => ?_)
      · refine q_loc [0, 1, 3] rfl ?_
        exact v_X12_areAllSo_30 C Rm K ih _ _ _ _ hm
      · refine q_aload_n C (k4 := 0) 0 rfl (by decide +kernel) ?_
        refine q_iload_n C (k4 := 3) 3 rfl (by decide +kernel) ?_
        refine q_viP C Rm (As := [.int x3]) (rest := []) Y_X12_areNotesSo Yv_X12_areNotesSo ml_X12_429 (by decide) (by decide) hm (fun r9 e9 => c_X12_areNotesSo _ _ _ _ _ _ _ _ e9) rfl rfl (Nat.le_of_ble_eq_true rfl) (by decide +kernel) (fun r3 hm z4 => ?_)
        refine q_if_eq C (off := 7) 30 hm (by decide +kernel) (by decide) (fun _ hm => ?_) (fun _ hm => ?_)
        · refine q_loc [0, 1, 3] rfl ?_
          exact v_X12_areAllSo_30 C Rm K ih _ _ _ _ hm
        · refine q_iconst C (n := 1) (v := 1) (by decide) (by decide +kernel) ?_
          refine q_goto C (off := 4) 31 (by decide +kernel) (by decide) ?_
          refine q_loc [0, 1, 3] rfl ?_
          exact v_X12_areAllSo_31 C Rm K ih _ _ _ _ _ hm
def m_X12_areAllSo (h : q_H) (a0 : Nat) (a1 : Int32) : Option (Int32 × q_H) :=
  m_X12_areAllSo_4 q_fu h a0 a1 ((1 : Int32)) ((0 : Int32))
set_option maxRecDepth 20000 in
set_option maxHeartbeats 1000000 in
theorem c_X12_areAllSo (l : Launch) (base : Nat) (D : va_G) (tc : Nat → ClassId) (sz : Nat) (h : q_H) (a0 : Nat) (a1 : Int32) {r : Int32} {h' : q_H} (hm : m_X12_areAllSo h a0 a1 = some (r, h')) : q_M l yX12_areAllSo cX12_areAllSo 4 (some .boolean) 6 144 0 0 base D tc [.ref a0, .int a1] sz h (some (.int r)) sz h' := by
  refine q_starti (by decide) (Nat.le_of_ble_eq_true rfl) (fun Γ B K => ?_)
  obtain ⟨C, Rm, -⟩ := B
  have C : q_C Γ cX12_areAllSo RX12 := C
  show q_V Γ sz 0 0 h [(0, .ref a0), (1, .int a1)] [] 0
  unfold m_X12_areAllSo at hm
  refine q_iconst C (n := 1) (v := 1) (by decide) (by decide +kernel) ?_
  refine q_istore_n C Rm.1 (k4 := 2) (i := 2) rfl (lv' := [(2, .int ((1 : Int32))), (0, .ref a0), (1, .int a1)]) rfl (by decide) (by decide +kernel) ?_
  refine q_iconst C (n := 0) (v := 0) (by decide) (by decide +kernel) ?_
  refine q_istore_n C Rm.1 (k4 := 3) (i := 3) rfl (lv' := [(3, .int ((0 : Int32))), (2, .int ((1 : Int32))), (0, .ref a0), (1, .int a1)]) rfl (by decide) (by decide +kernel) ?_
  refine q_loc [2, 3, 1, 0] rfl ?_
  exact v_X12_areAllSo_4 C Rm K _ _ _ _ _ _ hm
def m_X12_fillsFits_11  : Nat → q_H → Nat → Int32 → Int32 → Option q_H
  | 0, _, _, _, _ => none
  | n + 1, h, x0, x1, x2 =>
    (q_gi h x0 12 2).bind fun v4 =>
    if v4 < x2 then
      (q_pf h x0 12 21 (.int x1)).bind fun h5 =>
      (q_ca 12 h5 x0 (m_X12_laysBack h5 x0)).bind fun h7 =>
      some h7
    else
      (q_pf h x0 12 21 (.int ((x2 - (1 : Int32))))).bind fun h8 =>
      (q_ca 12 h8 x0 (m_X12_begins h8 x0)).bind fun h10 =>
      (q_gn h10 x0 12 30).bind fun v11 =>
      (q_ca 12 h10 x0 (m_X12_areAllSo h10 x0 x2)).bind fun (r12, h13) =>
      (q_si h13 v11 3 x2 (vp_nar .boolean r12)).bind fun h15 =>
      m_X12_fillsFits_11 n h15 x0 x1 ((x2 + (1 : Int32)))
set_option maxRecDepth 20000 in
set_option maxHeartbeats 1000000 in
theorem v_X12_fillsFits_11 {Γ : q_G} {sz : Nat} {h' : q_H} (C : q_C Γ cX12_fillsFits RX12) (Rm : q_Rm Γ 3 7 167 0 0)  (K : q_K Γ cX12_fillsFits .return_ sz h' 0 0 [])  : ∀ (n : Nat) (h : q_H) (x0 : Nat) (x1 : Int32) (x2 : Int32), m_X12_fillsFits_11 n h x0 x1 x2 = some h' → q_V Γ sz 0 0 h [(0, .ref x0), (1, .int x1), (2, .int x2)] [] 11 := by
  intro n
  induction n with
  | zero => intro h x0 x1 x2 hm; cases hm
  | succ n ih =>
    intro h x0 x1 x2 hm
    unfold m_X12_fillsFits_11 at hm
    refine q_iload_n C (k4 := 2) 2 rfl (by decide +kernel) ?_
    refine q_aload_n C (k4 := 0) 0 rfl (by decide +kernel) ?_
    refine q_geti C fl_12_251 hm (by decide +kernel) (fun v4 hm => ?_)
    refine q_icmp_gt C (off := 31) 47 hm (by decide +kernel) (by decide) (fun _ hm => ?_) (fun _ hm => ?_)
    · refine q_aload_n C (k4 := 0) 0 rfl (by decide +kernel) ?_
      refine q_iload_n C (k4 := 1) 1 rfl (by decide +kernel) ?_
      refine q_putf C fl_12_42 hm rfl rfl (by decide +kernel) (fun h5 hm => ?_)
      refine q_aload_n C (k4 := 0) 0 rfl (by decide +kernel) ?_
      refine q_vvS C Rm (As := []) (rest := []) Y_X12_laysBack Yv_X12_laysBack ml_X12_389 (by decide) (by decide) hm (fun h7 e9 => c_X12_laysBack _ _ _ _ _ _ _ e9) rfl rfl (Nat.le_of_ble_eq_true rfl) (by decide +kernel) (fun h7 hm => ?_)
      exact q_rvS hm K (by decide +kernel)
    · refine q_aload_n C (k4 := 0) 0 rfl (by decide +kernel) ?_
      refine q_iload_n C (k4 := 2) 2 rfl (by decide +kernel) ?_
      refine q_iconst C (n := 1) (v := 1) (by decide) (by decide +kernel) ?_
      refine q_isub C (by decide +kernel) ?_
      refine q_putf C fl_12_42 hm rfl rfl (by decide +kernel) (fun h8 hm => ?_)
      refine q_aload_n C (k4 := 0) 0 rfl (by decide +kernel) ?_
      refine q_vvS C Rm (As := []) (rest := []) Y_X12_begins Yv_X12_begins ml_X12_257 (by decide) (by decide) hm (fun h10 e9 => c_X12_begins _ _ _ _ _ _ _ e9) rfl rfl (Nat.le_of_ble_eq_true rfl) (by decide +kernel) (fun h10 hm => ?_)
      refine q_aload_n C (k4 := 0) 0 rfl (by decide +kernel) ?_
      refine q_getn C fl_12_64 hm (by decide +kernel) (fun v11 hm => ?_)
      refine q_iload_n C (k4 := 2) 2 rfl (by decide +kernel) ?_
      refine q_aload_n C (k4 := 0) 0 rfl (by decide +kernel) ?_
      refine q_iload_n C (k4 := 2) 2 rfl (by decide +kernel) ?_
      refine q_viS C Rm (As := [.int x2]) (rest := [.int x2, .ref v11]) Y_X12_areAllSo Yv_X12_areAllSo ml_X12_432 (by decide) (by decide) hm (fun r12 h13 e9 => c_X12_areAllSo _ _ _ _ _ _ _ _ e9) rfl rfl (Nat.le_of_ble_eq_true rfl) (by decide +kernel) (fun r12 h13 hm z14 => ?_)
      refine q_zw C hm (by decide +kernel) (fun h15 hm => ?_)
      refine q_iinc C Rm.1 (i := 2) (n := 1) (v := (x2 + (1 : Int32))) 2 rfl (q_inc _ (by decide)) (lv' := [(2, .int ((x2 + (1 : Int32)))), (0, .ref x0), (1, .int x1)]) rfl (by decide) (by decide +kernel) ?_
      refine q_goto C (off := -33) 11 (by decide +kernel) (by decide) ?_
      refine q_loc [1, 2, 0] rfl ?_
      exact ih _ _ _ _ hm
def m_X12_fillsFits (h : q_H) (a0 : Nat) : Option q_H :=
  (q_gi h a0 12 21).bind fun v1 =>
  (q_ca 12 h a0 (m_X12_keeps h a0)).bind fun h3 =>
  m_X12_fillsFits_11 q_fu h3 a0 v1 ((0 : Int32))
set_option maxRecDepth 20000 in
set_option maxHeartbeats 1000000 in
theorem c_X12_fillsFits (l : Launch) (base : Nat) (D : va_G) (tc : Nat → ClassId) (sz : Nat) (h : q_H) (a0 : Nat) {h' : q_H} (hm : m_X12_fillsFits h a0 = some h') : q_M l yX12_fillsFits cX12_fillsFits 3 none 7 167 0 0 base D tc [.ref a0] sz h none sz h' := by
  refine q_startv (by decide) (Nat.le_of_ble_eq_true rfl) (fun Γ B K => ?_)
  obtain ⟨C, Rm, -⟩ := B
  have C : q_C Γ cX12_fillsFits RX12 := C
  show q_V Γ sz 0 0 h [(0, .ref a0)] [] 0
  unfold m_X12_fillsFits at hm
  refine q_aload_n C (k4 := 0) 0 rfl (by decide +kernel) ?_
  refine q_geti C fl_12_42 hm (by decide +kernel) (fun v1 hm => ?_)
  refine q_istore_n C Rm.1 (k4 := 1) (i := 1) rfl (lv' := [(1, .int v1), (0, .ref a0)]) rfl (by decide) (by decide +kernel) ?_
  refine q_aload_n C (k4 := 0) 1 rfl (by decide +kernel) ?_
  refine q_vvS C Rm (As := []) (rest := []) Y_X12_keeps Yv_X12_keeps ml_X12_383 (by decide) (by decide) hm (fun h3 e9 => c_X12_keeps _ _ _ _ _ _ _ e9) rfl rfl (Nat.le_of_ble_eq_true rfl) (by decide +kernel) (fun h3 hm => ?_)
  refine q_iconst C (n := 0) (v := 0) (by decide) (by decide +kernel) ?_
  refine q_istore_n C Rm.1 (k4 := 2) (i := 2) rfl (lv' := [(2, .int ((0 : Int32))), (1, .int v1), (0, .ref a0)]) rfl (by decide) (by decide +kernel) ?_
  refine q_loc [2, 1, 0] rfl ?_
  exact v_X12_fillsFits_11 C Rm K _ _ _ _ _ hm
def m_X12_ruled_61 (k35 : q_H → Nat → Int32 → Int32 → Int32 → Int32 → Option (Int32 × q_H)) (h : q_H) (x0 : Nat) (x1 : Int32) (x2 : Int32) (x3 : Int32) (x4 : Int32) : Option (Int32 × q_H) :=
  k35 h x0 x1 x2 x3 ((x4 + (-1 : Int32)))
set_option maxRecDepth 20000 in
set_option maxHeartbeats 1000000 in
theorem v_X12_ruled_61 {Γ : q_G} {sz : Nat} {r : Int32} {h' : q_H} (C : q_C Γ cX12_ruled RX12) (Rm : q_Rm Γ 5 8 189 0 0) {k35 : q_H → Nat → Int32 → Int32 → Int32 → Int32 → Option (Int32 × q_H)} (K : narrow .int (.int r) = .int r → q_K Γ cX12_ruled .ireturn sz h' 0 0 [.int r]) (hk35 : ∀ (h : q_H) (x0 : Nat) (x1 : Int32) (x2 : Int32) (x3 : Int32) (x4 : Int32), k35 h x0 x1 x2 x3 x4 = some (r, h') → q_V Γ sz 0 0 h [(0, .ref x0), (1, .int x1), (2, .int x2), (3, .int x3), (4, .int x4)] [] 35) : ∀ (h : q_H) (x0 : Nat) (x1 : Int32) (x2 : Int32) (x3 : Int32) (x4 : Int32), m_X12_ruled_61 k35 h x0 x1 x2 x3 x4 = some (r, h') → q_V Γ sz 0 0 h [(0, .ref x0), (1, .int x1), (2, .int x2), (3, .int x3), (4, .int x4)] [] 61 := by
  intro h x0 x1 x2 x3 x4 hm
  unfold m_X12_ruled_61 at hm
  refine q_iinc C Rm.1 (i := 4) (n := (-1)) (v := (x4 + (-1 : Int32))) 4 rfl (q_inc _ (by decide)) (lv' := [(4, .int ((x4 + (-1 : Int32)))), (0, .ref x0), (1, .int x1), (2, .int x2), (3, .int x3)]) rfl (by decide) (by decide +kernel) ?_
  refine q_goto C (off := -29) 35 (by decide +kernel) (by decide) ?_
  refine q_loc [1, 2, 3, 4, 0] rfl ?_
  exact hk35 _ _ _ _ _ _ hm
def m_X12_ruled_35  : Nat → q_H → Nat → Int32 → Int32 → Int32 → Int32 → Option (Int32 × q_H)
  | 0, _, _, _, _, _, _ => none
  | n + 1, h, x0, x1, x2, x3, x4 =>
    if x4 < 0 then
      if x1 = 0 then
        some (x2, h)
      else
        some (x3, h)
    else
      (q_gn h x0 12 30).bind fun v8 =>
      (q_ai h v8 3 x4).bind fun v9 =>
      if v9 = 0 then
        m_X12_ruled_61 (m_X12_ruled_35 n) h x0 x1 x2 x3 x4
      else
        m_X12_ruled_61 (m_X12_ruled_35 n) h x0 x1 ((x2 + (1 : Int32))) ((x4 - (1 : Int32))) x4
set_option maxRecDepth 20000 in
set_option maxHeartbeats 1000000 in
theorem v_X12_ruled_35 {Γ : q_G} {sz : Nat} {r : Int32} {h' : q_H} (C : q_C Γ cX12_ruled RX12) (Rm : q_Rm Γ 5 8 189 0 0)  (K : narrow .int (.int r) = .int r → q_K Γ cX12_ruled .ireturn sz h' 0 0 [.int r])  : ∀ (n : Nat) (h : q_H) (x0 : Nat) (x1 : Int32) (x2 : Int32) (x3 : Int32) (x4 : Int32), m_X12_ruled_35 n h x0 x1 x2 x3 x4 = some (r, h') → q_V Γ sz 0 0 h [(0, .ref x0), (1, .int x1), (2, .int x2), (3, .int x3), (4, .int x4)] [] 35 := by
  intro n
  induction n with
  | zero => intro h x0 x1 x2 x3 x4 hm; cases hm
  | succ n ih =>
    intro h x0 x1 x2 x3 x4 hm
    unfold m_X12_ruled_35 at hm
    refine q_iload C (i := 4) 4 rfl (by decide +kernel) ?_
    refine q_if_lt C (off := 30) 67 hm (by decide +kernel) (by decide) (fun _ hm => ?_) (fun _ hm => ?_)
    · refine q_iload_n C (k4 := 1) 1 rfl (by decide +kernel) ?_
      refine q_if_ne C (off := 7) 75 hm (by decide +kernel) (by decide) (fun _ hm => ?_) (fun _ hm => ?_)
      · refine q_iload_n C (k4 := 3) 3 rfl (by decide +kernel) ?_
        exact q_riS hm K rfl (by decide +kernel)
      · refine q_iload_n C (k4 := 2) 2 rfl (by decide +kernel) ?_
        refine q_goto C (off := 4) 76 (by decide +kernel) (by decide) ?_
        exact q_riS hm K rfl (by decide +kernel)
    · refine q_aload_n C (k4 := 0) 0 rfl (by decide +kernel) ?_
      refine q_getn C fl_12_64 hm (by decide +kernel) (fun v8 hm => ?_)
      refine q_iload C (i := 4) 4 rfl (by decide +kernel) ?_
      refine q_zr C hm (by decide +kernel) (fun v9 hm => ?_)
      refine q_if_ne C (off := 6) 53 hm (by decide +kernel) (by decide) (fun _ hm => ?_) (fun _ hm => ?_)
      · refine q_iload C (i := 4) 4 rfl (by decide +kernel) ?_
        refine q_iconst C (n := 1) (v := 1) (by decide) (by decide +kernel) ?_
        refine q_isub C (by decide +kernel) ?_
        refine q_istore_n C Rm.1 (k4 := 3) (i := 3) rfl (lv' := [(3, .int ((x4 - (1 : Int32)))), (0, .ref x0), (1, .int x1), (2, .int x2), (4, .int x4)]) rfl (by decide) (by decide +kernel) ?_
        refine q_iinc C Rm.1 (i := 2) (n := 1) (v := (x2 + (1 : Int32))) 3 rfl (q_inc _ (by decide)) (lv' := [(2, .int ((x2 + (1 : Int32)))), (3, .int ((x4 - (1 : Int32)))), (0, .ref x0), (1, .int x1), (4, .int x4)]) rfl (by decide) (by decide +kernel) ?_
        refine q_loc [2, 3, 0, 1, 4] rfl ?_
        exact v_X12_ruled_61 C Rm K ih _ _ _ _ _ _ hm
      · refine q_goto C (off := 11) 61 (by decide +kernel) (by decide) ?_
        exact v_X12_ruled_61 C Rm K ih _ _ _ _ _ _ hm
def m_X12_ruled (h : q_H) (a0 : Nat) (a1 : Int32) : Option (Int32 × q_H) :=
  (q_ca 12 h a0 (m_X12_isRope h a0)).bind fun r1 =>
  if r1 = 0 then
    some ((-3 : Int32), h)
  else
    (m_X12_in a1.toInt64 ((0 : Int64)) ((1 : Int64))).bind fun r3 =>
    if r3 = 0 then
      some ((-3 : Int32), h)
    else
      (q_ca 12 h a0 (m_X12_fillsFits h a0)).bind fun h6 =>
      (q_gi h6 a0 12 2).bind fun v7 =>
      m_X12_ruled_35 q_fu h6 a0 a1 ((0 : Int32)) ((-2 : Int32)) v7
set_option maxRecDepth 20000 in
set_option maxHeartbeats 1000000 in
theorem c_X12_ruled (l : Launch) (base : Nat) (D : va_G) (tc : Nat → ClassId) (sz : Nat) (h : q_H) (a0 : Nat) (a1 : Int32) {r : Int32} {h' : q_H} (hm : m_X12_ruled h a0 a1 = some (r, h')) : q_M l yX12_ruled cX12_ruled 5 (some .int) 8 189 0 0 base D tc [.ref a0, .int a1] sz h (some (.int r)) sz h' := by
  refine q_starti (by decide) (Nat.le_of_ble_eq_true rfl) (fun Γ B K => ?_)
  obtain ⟨C, Rm, -⟩ := B
  have C : q_C Γ cX12_ruled RX12 := C
  show q_V Γ sz 0 0 h [(0, .ref a0), (1, .int a1)] [] 0
  unfold m_X12_ruled at hm
  refine q_aload_n C (k4 := 0) 0 rfl (by decide +kernel) ?_
  refine q_viP C Rm (As := []) (rest := []) Y_X12_isRope Yv_X12_isRope ml_X12_299 (by decide) (by decide) hm (fun r9 e9 => c_X12_isRope _ _ _ _ _ _ _ e9) rfl rfl (Nat.le_of_ble_eq_true rfl) (by decide +kernel) (fun r1 hm z2 => ?_)
  refine q_if_eq C (off := 13) 17 hm (by decide +kernel) (by decide) (fun _ hm => ?_) (fun _ hm => ?_)
  · refine q_bipush C (n := (-3)) (v := (-3)) (by decide) (by decide +kernel) ?_
    exact q_riS hm K rfl (by decide +kernel)
  · refine q_iload_n C (k4 := 1) 1 rfl (by decide +kernel) ?_
    refine q_i2l C (by decide +kernel) ?_
    refine q_lconst C (n := 0) (v := 0) (by decide) (by decide +kernel) ?_
    refine q_lconst C (n := 1) (v := 1) (by decide) (by decide +kernel) ?_
    refine q_siP C Rm (As := [.long a1.toInt64, .long ((0 : Int64)), .long ((1 : Int64))]) (rest := []) Y_X12_in Ys_X12_in ml_X12_121 (by decide) (by decide) hm (fun r9 e9 => c_X12_in _ _ _ _ _ _ _ _ _ e9) rfl rfl (Nat.le_of_ble_eq_true rfl) (by decide +kernel) (fun r3 hm z4 => ?_)
    refine q_if_ne C (off := 6) 20 hm (by decide +kernel) (by decide) (fun _ hm => ?_) (fun _ hm => ?_)
    · refine q_aload_n C (k4 := 0) 0 rfl (by decide +kernel) ?_
      refine q_vvS C Rm (As := []) (rest := []) Y_X12_fillsFits Yv_X12_fillsFits ml_X12_435 (by decide) (by decide) hm (fun h6 e9 => c_X12_fillsFits _ _ _ _ _ _ _ e9) rfl rfl (Nat.le_of_ble_eq_true rfl) (by decide +kernel) (fun h6 hm => ?_)
      refine q_iconst C (n := 0) (v := 0) (by decide) (by decide +kernel) ?_
      refine q_istore_n C Rm.1 (k4 := 2) (i := 2) rfl (lv' := [(2, .int ((0 : Int32))), (0, .ref a0), (1, .int a1)]) rfl (by decide) (by decide +kernel) ?_
      refine q_bipush C (n := (-2)) (v := (-2)) (by decide) (by decide +kernel) ?_
      refine q_istore_n C Rm.1 (k4 := 3) (i := 3) rfl (lv' := [(3, .int ((-2 : Int32))), (2, .int ((0 : Int32))), (0, .ref a0), (1, .int a1)]) rfl (by decide) (by decide +kernel) ?_
      refine q_aload_n C (k4 := 0) 2 rfl (by decide +kernel) ?_
      refine q_geti C fl_12_251 hm (by decide +kernel) (fun v7 hm => ?_)
      refine q_istore C Rm.1 (i := 4) (lv' := [(4, .int v7), (3, .int ((-2 : Int32))), (2, .int ((0 : Int32))), (0, .ref a0), (1, .int a1)]) rfl (by decide) (by decide +kernel) ?_
      refine q_loc [3, 4, 2, 1, 0] rfl ?_
      exact v_X12_ruled_35 C Rm K _ _ _ _ _ _ _ hm
    · refine q_bipush C (n := (-3)) (v := (-3)) (by decide) (by decide +kernel) ?_
      exact q_riS hm K rfl (by decide +kernel)
def m_X12_alikeAt_79 (k4 : q_H → Nat → Int32 → Int32 → Int32 → Option Int32) (k18 : q_H → Nat → Int32 → Int32 → Int32 → Int32 → Int32 → Option Int32) (h0 : q_H) (x0 : Nat) (x1 : Int32) (x2 : Int32) (x3 : Int32) (x5 : Int32) (s0 : Int32) (s1 : Int32) : Option Int32 :=
  k18 h0 x0 x1 x2 x3 ((s1 + s0)) ((x5 + (1 : Int32)))
set_option maxRecDepth 20000 in
set_option maxHeartbeats 1000000 in
theorem v_X12_alikeAt_79 {Γ : q_G} {sz : Nat} {h0 : q_H} {r : Int32} (C : q_C Γ cX12_alikeAt RX12) (Rm : q_Rm Γ 6 0 0 0 0) {k4 : q_H → Nat → Int32 → Int32 → Int32 → Option Int32} {k18 : q_H → Nat → Int32 → Int32 → Int32 → Int32 → Int32 → Option Int32} (K : narrow .int (.int r) = .int r → q_K Γ cX12_alikeAt .ireturn sz h0 0 0 [.int r]) (hk4 : ∀ (x0 : Nat) (x1 : Int32) (x2 : Int32) (x3 : Int32), k4 h0 x0 x1 x2 x3 = some r → q_V Γ sz 0 0 h0 [(0, .ref x0), (1, .int x1), (2, .int x2), (3, .int x3)] [] 4) (hk18 : ∀ (x0 : Nat) (x1 : Int32) (x2 : Int32) (x3 : Int32) (x4 : Int32) (x5 : Int32), k18 h0 x0 x1 x2 x3 x4 x5 = some r → q_V Γ sz 0 0 h0 [(0, .ref x0), (1, .int x1), (2, .int x2), (3, .int x3), (4, .int x4), (5, .int x5)] [] 18) : ∀ (x0 : Nat) (x1 : Int32) (x2 : Int32) (x3 : Int32) (x5 : Int32) (s0 : Int32) (s1 : Int32), m_X12_alikeAt_79 k4 k18 h0 x0 x1 x2 x3 x5 s0 s1 = some r → q_V Γ sz 0 0 h0 [(0, .ref x0), (1, .int x1), (2, .int x2), (3, .int x3), (5, .int x5)] [.int s0, .int s1] 79 := by
  intro x0 x1 x2 x3 x5 s0 s1 hm
  unfold m_X12_alikeAt_79 at hm
  refine q_iadd C (by decide +kernel) ?_
  refine q_istore C Rm.1 (i := 4) (lv' := [(4, .int ((s1 + s0))), (0, .ref x0), (1, .int x1), (2, .int x2), (3, .int x3), (5, .int x5)]) rfl (by decide) (by decide +kernel) ?_
  refine q_iinc C Rm.1 (i := 5) (n := 1) (v := (x5 + (1 : Int32))) 5 rfl (q_inc _ (by decide)) (lv' := [(5, .int ((x5 + (1 : Int32)))), (4, .int ((s1 + s0))), (0, .ref x0), (1, .int x1), (2, .int x2), (3, .int x3)]) rfl (by decide) (by decide +kernel) ?_
  refine q_goto C (off := -67) 18 (by decide +kernel) (by decide) ?_
  refine q_loc [2, 3, 4, 5, 1, 0] rfl ?_
  exact hk18 _ _ _ _ _ _ hm
def m_X12_alikeAt_78 (k4 : q_H → Nat → Int32 → Int32 → Int32 → Option Int32) (k18 : q_H → Nat → Int32 → Int32 → Int32 → Int32 → Int32 → Option Int32) (h0 : q_H) (x0 : Nat) (x1 : Int32) (x2 : Int32) (x3 : Int32) (x5 : Int32) (s0 : Int32) : Option Int32 :=
  m_X12_alikeAt_79 k4 k18 h0 x0 x1 x2 x3 x5 ((0 : Int32)) s0
set_option maxRecDepth 20000 in
set_option maxHeartbeats 1000000 in
theorem v_X12_alikeAt_78 {Γ : q_G} {sz : Nat} {h0 : q_H} {r : Int32} (C : q_C Γ cX12_alikeAt RX12) (Rm : q_Rm Γ 6 0 0 0 0) {k4 : q_H → Nat → Int32 → Int32 → Int32 → Option Int32} {k18 : q_H → Nat → Int32 → Int32 → Int32 → Int32 → Int32 → Option Int32} (K : narrow .int (.int r) = .int r → q_K Γ cX12_alikeAt .ireturn sz h0 0 0 [.int r]) (hk4 : ∀ (x0 : Nat) (x1 : Int32) (x2 : Int32) (x3 : Int32), k4 h0 x0 x1 x2 x3 = some r → q_V Γ sz 0 0 h0 [(0, .ref x0), (1, .int x1), (2, .int x2), (3, .int x3)] [] 4) (hk18 : ∀ (x0 : Nat) (x1 : Int32) (x2 : Int32) (x3 : Int32) (x4 : Int32) (x5 : Int32), k18 h0 x0 x1 x2 x3 x4 x5 = some r → q_V Γ sz 0 0 h0 [(0, .ref x0), (1, .int x1), (2, .int x2), (3, .int x3), (4, .int x4), (5, .int x5)] [] 18) : ∀ (x0 : Nat) (x1 : Int32) (x2 : Int32) (x3 : Int32) (x5 : Int32) (s0 : Int32), m_X12_alikeAt_78 k4 k18 h0 x0 x1 x2 x3 x5 s0 = some r → q_V Γ sz 0 0 h0 [(0, .ref x0), (1, .int x1), (2, .int x2), (3, .int x3), (5, .int x5)] [.int s0] 78 := by
  intro x0 x1 x2 x3 x5 s0 hm
  unfold m_X12_alikeAt_78 at hm
  refine q_iconst C (n := 0) (v := 0) (by decide) (by decide +kernel) ?_
  exact v_X12_alikeAt_79 C Rm K hk4 hk18 _ _ _ _ _ _ _ hm
def m_X12_alikeAt_100 (k4 : q_H → Nat → Int32 → Int32 → Int32 → Option Int32) (h0 : q_H) (x0 : Nat) (x1 : Int32) (x3 : Int32) (s0 : Int32) : Option Int32 :=
  k4 h0 x0 x1 s0 ((x3 + (1 : Int32)))
set_option maxRecDepth 20000 in
set_option maxHeartbeats 1000000 in
theorem v_X12_alikeAt_100 {Γ : q_G} {sz : Nat} {h0 : q_H} {r : Int32} (C : q_C Γ cX12_alikeAt RX12) (Rm : q_Rm Γ 6 0 0 0 0) {k4 : q_H → Nat → Int32 → Int32 → Int32 → Option Int32} (K : narrow .int (.int r) = .int r → q_K Γ cX12_alikeAt .ireturn sz h0 0 0 [.int r]) (hk4 : ∀ (x0 : Nat) (x1 : Int32) (x2 : Int32) (x3 : Int32), k4 h0 x0 x1 x2 x3 = some r → q_V Γ sz 0 0 h0 [(0, .ref x0), (1, .int x1), (2, .int x2), (3, .int x3)] [] 4) : ∀ (x0 : Nat) (x1 : Int32) (x3 : Int32) (s0 : Int32), m_X12_alikeAt_100 k4 h0 x0 x1 x3 s0 = some r → q_V Γ sz 0 0 h0 [(0, .ref x0), (1, .int x1), (3, .int x3)] [.int s0] 100 := by
  intro x0 x1 x3 s0 hm
  unfold m_X12_alikeAt_100 at hm
  refine q_istore_n C Rm.1 (k4 := 2) (i := 2) rfl (lv' := [(2, .int s0), (0, .ref x0), (1, .int x1), (3, .int x3)]) rfl (by decide) (by decide +kernel) ?_
  refine q_iinc C Rm.1 (i := 3) (n := 1) (v := (x3 + (1 : Int32))) 3 rfl (q_inc _ (by decide)) (lv' := [(3, .int ((x3 + (1 : Int32)))), (2, .int s0), (0, .ref x0), (1, .int x1)]) rfl (by decide) (by decide +kernel) ?_
  refine q_goto C (off := -100) 4 (by decide +kernel) (by decide) ?_
  refine q_loc [2, 3, 1, 0] rfl ?_
  exact hk4 _ _ _ _ hm
def m_X12_alikeAt_88 (k4 : q_H → Nat → Int32 → Int32 → Int32 → Option Int32) (h0 : q_H) (x0 : Nat) (x1 : Int32) (x2 : Int32) (x3 : Int32) (x4 : Int32) : Option Int32 :=
  if x4 ≤ x2 then
    m_X12_alikeAt_100 k4 h0 x0 x1 x3 x2
  else
    m_X12_alikeAt_100 k4 h0 x0 x1 x3 x4
set_option maxRecDepth 20000 in
set_option maxHeartbeats 1000000 in
theorem v_X12_alikeAt_88 {Γ : q_G} {sz : Nat} {h0 : q_H} {r : Int32} (C : q_C Γ cX12_alikeAt RX12) (Rm : q_Rm Γ 6 0 0 0 0) {k4 : q_H → Nat → Int32 → Int32 → Int32 → Option Int32} (K : narrow .int (.int r) = .int r → q_K Γ cX12_alikeAt .ireturn sz h0 0 0 [.int r]) (hk4 : ∀ (x0 : Nat) (x1 : Int32) (x2 : Int32) (x3 : Int32), k4 h0 x0 x1 x2 x3 = some r → q_V Γ sz 0 0 h0 [(0, .ref x0), (1, .int x1), (2, .int x2), (3, .int x3)] [] 4) : ∀ (x0 : Nat) (x1 : Int32) (x2 : Int32) (x3 : Int32) (x4 : Int32), m_X12_alikeAt_88 k4 h0 x0 x1 x2 x3 x4 = some r → q_V Γ sz 0 0 h0 [(0, .ref x0), (1, .int x1), (2, .int x2), (3, .int x3), (4, .int x4)] [] 88 := by
  intro x0 x1 x2 x3 x4 hm
  unfold m_X12_alikeAt_88 at hm
  refine q_iload C (i := 4) 4 rfl (by decide +kernel) ?_
  refine q_iload_n C (k4 := 2) 2 rfl (by decide +kernel) ?_
  refine q_icmp_le C (off := 8) 99 hm (by decide +kernel) (by decide) (fun _ hm => ?_) (fun _ hm => ?_)
  · refine q_iload_n C (k4 := 2) 2 rfl (by decide +kernel) ?_
    refine q_loc [0, 1, 3] rfl ?_
    exact v_X12_alikeAt_100 C Rm K hk4 _ _ _ _ hm
  · refine q_iload C (i := 4) 4 rfl (by decide +kernel) ?_
    refine q_goto C (off := 4) 100 (by decide +kernel) (by decide) ?_
    refine q_loc [0, 1, 3] rfl ?_
    exact v_X12_alikeAt_100 C Rm K hk4 _ _ _ _ hm
def m_X12_alikeAt_18 (k4 : q_H → Nat → Int32 → Int32 → Int32 → Option Int32) : Nat → q_H → Nat → Int32 → Int32 → Int32 → Int32 → Int32 → Option Int32
  | 0, _, _, _, _, _, _, _ => none
  | n + 1, h0, x0, x1, x2, x3, x4, x5 =>
    (q_gi h0 x0 12 2).bind fun v2 =>
    if v2 < x5 then
      m_X12_alikeAt_88 k4 h0 x0 x1 x2 x3 x4
    else
      (q_gn h0 x0 12 30).bind fun v3 =>
      (q_ai h0 v3 3 x3).bind fun v4 =>
      if v4 = 0 then
        m_X12_alikeAt_88 k4 h0 x0 x1 x2 x3 x4
      else
        (q_gn h0 x0 12 30).bind fun v5 =>
        (q_ai h0 v5 3 x5).bind fun v6 =>
        if v6 = 0 then
          m_X12_alikeAt_78 k4 (m_X12_alikeAt_18 k4 n) h0 x0 x1 x2 x3 x5 x4
        else
          (q_gn h0 x0 12 31).bind fun v7 =>
          (q_ai h0 v7 1 ((((61 : Int32) * x3) + x1))).bind fun v8 =>
          (q_gn h0 x0 12 31).bind fun v9 =>
          (q_ai h0 v9 1 ((((61 : Int32) * x5) + x1))).bind fun v10 =>
          if v8 = v10 then
            m_X12_alikeAt_79 k4 (m_X12_alikeAt_18 k4 n) h0 x0 x1 x2 x3 x5 ((1 : Int32)) x4
          else
            m_X12_alikeAt_78 k4 (m_X12_alikeAt_18 k4 n) h0 x0 x1 x2 x3 x5 x4
set_option maxRecDepth 20000 in
set_option maxHeartbeats 1000000 in
theorem v_X12_alikeAt_18 {Γ : q_G} {sz : Nat} {h0 : q_H} {r : Int32} (C : q_C Γ cX12_alikeAt RX12) (Rm : q_Rm Γ 6 0 0 0 0) {k4 : q_H → Nat → Int32 → Int32 → Int32 → Option Int32} (K : narrow .int (.int r) = .int r → q_K Γ cX12_alikeAt .ireturn sz h0 0 0 [.int r]) (hk4 : ∀ (x0 : Nat) (x1 : Int32) (x2 : Int32) (x3 : Int32), k4 h0 x0 x1 x2 x3 = some r → q_V Γ sz 0 0 h0 [(0, .ref x0), (1, .int x1), (2, .int x2), (3, .int x3)] [] 4) : ∀ (n : Nat) (x0 : Nat) (x1 : Int32) (x2 : Int32) (x3 : Int32) (x4 : Int32) (x5 : Int32), m_X12_alikeAt_18 k4 n h0 x0 x1 x2 x3 x4 x5 = some r → q_V Γ sz 0 0 h0 [(0, .ref x0), (1, .int x1), (2, .int x2), (3, .int x3), (4, .int x4), (5, .int x5)] [] 18 := by
  intro n
  induction n with
  | zero => intro x0 x1 x2 x3 x4 x5 hm; cases hm
  | succ n ih =>
    intro x0 x1 x2 x3 x4 x5 hm
    unfold m_X12_alikeAt_18 at hm
    refine q_iload C (i := 5) 5 rfl (by decide +kernel) ?_
    refine q_aload_n C (k4 := 0) 0 rfl (by decide +kernel) ?_
    refine q_geti C fl_12_251 hm (by decide +kernel) (fun v2 hm => ?_)
    refine q_icmp_gt C (off := 64) 88 hm (by decide +kernel) (by decide) (fun _ hm => ?_) (fun _ hm => ?_)
    · refine q_loc [0, 1, 2, 3, 4] rfl ?_
      exact v_X12_alikeAt_88 C Rm K hk4 _ _ _ _ _ hm
    · refine q_aload_n C (k4 := 0) 0 rfl (by decide +kernel) ?_
      refine q_getn C fl_12_64 hm (by decide +kernel) (fun v3 hm => ?_)
      refine q_iload_n C (k4 := 3) 3 rfl (by decide +kernel) ?_
      refine q_zr C hm (by decide +kernel) (fun v4 hm => ?_)
      refine q_if_eq C (off := 55) 88 hm (by decide +kernel) (by decide) (fun _ hm => ?_) (fun _ hm => ?_)
      · refine q_loc [0, 1, 2, 3, 4] rfl ?_
        exact v_X12_alikeAt_88 C Rm K hk4 _ _ _ _ _ hm
      · refine q_iload C (i := 4) 4 rfl (by decide +kernel) ?_
        refine q_aload_n C (k4 := 0) 0 rfl (by decide +kernel) ?_
        refine q_getn C fl_12_64 hm (by decide +kernel) (fun v5 hm => ?_)
        refine q_iload C (i := 5) 5 rfl (by decide +kernel) ?_
        refine q_zr C hm (by decide +kernel) (fun v6 hm => ?_)
        refine q_if_eq C (off := 33) 78 hm (by decide +kernel) (by decide) (fun _ hm => ?_) (fun _ hm => ?_)
        · refine q_loc [0, 1, 2, 3, 5] rfl ?_
          exact v_X12_alikeAt_78 C Rm K hk4 ih _ _ _ _ _ _ hm
        · refine q_aload_n C (k4 := 0) 0 rfl (by decide +kernel) ?_
          refine q_getn C fl_12_68 hm (by decide +kernel) (fun v7 hm => ?_)
          refine q_bipush C (n := 61) (v := 61) (by decide) (by decide +kernel) ?_
          refine q_iload_n C (k4 := 3) 3 rfl (by decide +kernel) ?_
          refine q_imul C (by decide +kernel) ?_
          refine q_iload_n C (k4 := 1) 1 rfl (by decide +kernel) ?_
          refine q_iadd C (by decide +kernel) ?_
          refine q_ir C hm (by decide +kernel) (fun v8 hm => ?_)
          refine q_aload_n C (k4 := 0) 0 rfl (by decide +kernel) ?_
          refine q_getn C fl_12_68 hm (by decide +kernel) (fun v9 hm => ?_)
          refine q_bipush C (n := 61) (v := 61) (by decide) (by decide +kernel) ?_
          refine q_iload C (i := 5) 5 rfl (by decide +kernel) ?_
          refine q_imul C (by decide +kernel) ?_
          refine q_iload_n C (k4 := 1) 1 rfl (by decide +kernel) ?_
          refine q_iadd C (by decide +kernel) ?_
          refine q_ir C hm (by decide +kernel) (fun v10 hm => ?_)
          refine q_icmp_ne C (off := 7) 78 hm (by decide +kernel) (by decide) (fun _ hm => ?_) (fun _ hm => ?_)
          · refine q_loc [0, 1, 2, 3, 5] rfl ?_
            exact v_X12_alikeAt_78 C Rm K hk4 ih _ _ _ _ _ _ hm
          · refine q_iconst C (n := 1) (v := 1) (by decide) (by decide +kernel) ?_
            refine q_goto C (off := 4) 79 (by decide +kernel) (by decide) ?_
            refine q_loc [0, 1, 2, 3, 5] rfl ?_
            exact v_X12_alikeAt_79 C Rm K hk4 ih _ _ _ _ _ _ _ hm
def m_X12_alikeAt_4  : Nat → q_H → Nat → Int32 → Int32 → Int32 → Option Int32
  | 0, _, _, _, _, _ => none
  | n + 1, h0, x0, x1, x2, x3 =>
    (q_gi h0 x0 12 2).bind fun v1 =>
    if v1 < x3 then
      some x2
    else
      m_X12_alikeAt_18 (m_X12_alikeAt_4 n) q_fu h0 x0 x1 x2 x3 ((0 : Int32)) ((0 : Int32))
set_option maxRecDepth 20000 in
set_option maxHeartbeats 1000000 in
theorem v_X12_alikeAt_4 {Γ : q_G} {sz : Nat} {h0 : q_H} {r : Int32} (C : q_C Γ cX12_alikeAt RX12) (Rm : q_Rm Γ 6 0 0 0 0)  (K : narrow .int (.int r) = .int r → q_K Γ cX12_alikeAt .ireturn sz h0 0 0 [.int r])  : ∀ (n : Nat) (x0 : Nat) (x1 : Int32) (x2 : Int32) (x3 : Int32), m_X12_alikeAt_4 n h0 x0 x1 x2 x3 = some r → q_V Γ sz 0 0 h0 [(0, .ref x0), (1, .int x1), (2, .int x2), (3, .int x3)] [] 4 := by
  intro n
  induction n with
  | zero => intro x0 x1 x2 x3 hm; cases hm
  | succ n ih =>
    intro x0 x1 x2 x3 hm
    unfold m_X12_alikeAt_4 at hm
    refine q_iload_n C (k4 := 3) 3 rfl (by decide +kernel) ?_
    refine q_aload_n C (k4 := 0) 0 rfl (by decide +kernel) ?_
    refine q_geti C fl_12_251 hm (by decide +kernel) (fun v1 hm => ?_)
    refine q_icmp_gt C (off := 98) 107 hm (by decide +kernel) (by decide) (fun _ hm => ?_) (fun _ hm => ?_)
    · refine q_iload_n C (k4 := 2) 2 rfl (by decide +kernel) ?_
      exact q_riP hm K rfl (by decide +kernel)
    · refine q_iconst C (n := 0) (v := 0) (by decide) (by decide +kernel) ?_
      refine q_istore C Rm.1 (i := 4) (lv' := [(4, .int ((0 : Int32))), (0, .ref x0), (1, .int x1), (2, .int x2), (3, .int x3)]) rfl (by decide) (by decide +kernel) ?_
      refine q_iconst C (n := 0) (v := 0) (by decide) (by decide +kernel) ?_
      refine q_istore C Rm.1 (i := 5) (lv' := [(5, .int ((0 : Int32))), (4, .int ((0 : Int32))), (0, .ref x0), (1, .int x1), (2, .int x2), (3, .int x3)]) rfl (by decide) (by decide +kernel) ?_
      refine q_loc [2, 3, 4, 5, 1, 0] rfl ?_
      exact v_X12_alikeAt_18 C Rm K ih _ _ _ _ _ _ _ hm
def m_X12_alikeAt (h0 : q_H) (a0 : Nat) (a1 : Int32) : Option Int32 :=
  m_X12_alikeAt_4 q_fu h0 a0 a1 ((0 : Int32)) ((0 : Int32))
set_option maxRecDepth 20000 in
set_option maxHeartbeats 1000000 in
theorem c_X12_alikeAt (l : Launch) (base : Nat) (D : va_G) (tc : Nat → ClassId) (sz : Nat) (h0 : q_H) (a0 : Nat) (a1 : Int32) {r : Int32} (hm : m_X12_alikeAt h0 a0 a1 = some r) : q_M l yX12_alikeAt cX12_alikeAt 6 (some .int) 0 0 0 0 base D tc [.ref a0, .int a1] sz h0 (some (.int r)) sz h0 := by
  refine q_starti (by decide) (Nat.le_of_ble_eq_true rfl) (fun Γ B K => ?_)
  obtain ⟨C, Rm, -⟩ := B
  have C : q_C Γ cX12_alikeAt RX12 := C
  show q_V Γ sz 0 0 h0 [(0, .ref a0), (1, .int a1)] [] 0
  unfold m_X12_alikeAt at hm
  refine q_iconst C (n := 0) (v := 0) (by decide) (by decide +kernel) ?_
  refine q_istore_n C Rm.1 (k4 := 2) (i := 2) rfl (lv' := [(2, .int ((0 : Int32))), (0, .ref a0), (1, .int a1)]) rfl (by decide) (by decide +kernel) ?_
  refine q_iconst C (n := 0) (v := 0) (by decide) (by decide +kernel) ?_
  refine q_istore_n C Rm.1 (k4 := 3) (i := 3) rfl (lv' := [(3, .int ((0 : Int32))), (2, .int ((0 : Int32))), (0, .ref a0), (1, .int a1)]) rfl (by decide) (by decide +kernel) ?_
  refine q_loc [2, 3, 1, 0] rfl ?_
  exact v_X12_alikeAt_4 C Rm K _ _ _ _ _ hm
def m_X12_look_71 (k32 : q_H → Nat → Int32 → Int32 → Int32 → Int32 → Option (Int32 × q_H)) (h : q_H) (x0 : Nat) (x1 : Int32) (x2 : Int32) (x3 : Int32) (x4 : Int32) : Option (Int32 × q_H) :=
  k32 h x0 x1 x2 x3 ((x4 + (1 : Int32)))
set_option maxRecDepth 20000 in
set_option maxHeartbeats 1000000 in
theorem v_X12_look_71 {Γ : q_G} {sz : Nat} {r : Int32} {h' : q_H} (C : q_C Γ cX12_look RX12) (Rm : q_Rm Γ 6 8 189 0 0) {k32 : q_H → Nat → Int32 → Int32 → Int32 → Int32 → Option (Int32 × q_H)} (K : narrow .int (.int r) = .int r → q_K Γ cX12_look .ireturn sz h' 0 0 [.int r]) (hk32 : ∀ (h : q_H) (x0 : Nat) (x1 : Int32) (x2 : Int32) (x3 : Int32) (x4 : Int32), k32 h x0 x1 x2 x3 x4 = some (r, h') → q_V Γ sz 0 0 h [(0, .ref x0), (1, .int x1), (2, .int x2), (3, .int x3), (4, .int x4)] [] 32) : ∀ (h : q_H) (x0 : Nat) (x1 : Int32) (x2 : Int32) (x3 : Int32) (x4 : Int32), m_X12_look_71 k32 h x0 x1 x2 x3 x4 = some (r, h') → q_V Γ sz 0 0 h [(0, .ref x0), (1, .int x1), (2, .int x2), (3, .int x3), (4, .int x4)] [] 71 := by
  intro h x0 x1 x2 x3 x4 hm
  unfold m_X12_look_71 at hm
  refine q_iinc C Rm.1 (i := 4) (n := 1) (v := (x4 + (1 : Int32))) 4 rfl (q_inc _ (by decide)) (lv' := [(4, .int ((x4 + (1 : Int32)))), (0, .ref x0), (1, .int x1), (2, .int x2), (3, .int x3)]) rfl (by decide) (by decide +kernel) ?_
  refine q_goto C (off := -42) 32 (by decide +kernel) (by decide) ?_
  refine q_loc [1, 2, 3, 4, 0] rfl ?_
  exact hk32 _ _ _ _ _ _ hm
def m_X12_look_65 (k32 : q_H → Nat → Int32 → Int32 → Int32 → Int32 → Option (Int32 × q_H)) (h : q_H) (x0 : Nat) (x1 : Int32) (x4 : Int32) (x5 : Int32) : Option (Int32 × q_H) :=
  m_X12_look_71 k32 h x0 x1 x4 x5 x4
set_option maxRecDepth 20000 in
set_option maxHeartbeats 1000000 in
theorem v_X12_look_65 {Γ : q_G} {sz : Nat} {r : Int32} {h' : q_H} (C : q_C Γ cX12_look RX12) (Rm : q_Rm Γ 6 8 189 0 0) {k32 : q_H → Nat → Int32 → Int32 → Int32 → Int32 → Option (Int32 × q_H)} (K : narrow .int (.int r) = .int r → q_K Γ cX12_look .ireturn sz h' 0 0 [.int r]) (hk32 : ∀ (h : q_H) (x0 : Nat) (x1 : Int32) (x2 : Int32) (x3 : Int32) (x4 : Int32), k32 h x0 x1 x2 x3 x4 = some (r, h') → q_V Γ sz 0 0 h [(0, .ref x0), (1, .int x1), (2, .int x2), (3, .int x3), (4, .int x4)] [] 32) : ∀ (h : q_H) (x0 : Nat) (x1 : Int32) (x4 : Int32) (x5 : Int32), m_X12_look_65 k32 h x0 x1 x4 x5 = some (r, h') → q_V Γ sz 0 0 h [(0, .ref x0), (1, .int x1), (4, .int x4), (5, .int x5)] [] 65 := by
  intro h x0 x1 x4 x5 hm
  unfold m_X12_look_65 at hm
  refine q_iload C (i := 4) 2 rfl (by decide +kernel) ?_
  refine q_istore_n C Rm.1 (k4 := 2) (i := 2) rfl (lv' := [(2, .int x4), (0, .ref x0), (1, .int x1), (4, .int x4), (5, .int x5)]) rfl (by decide) (by decide +kernel) ?_
  refine q_iload C (i := 5) 4 rfl (by decide +kernel) ?_
  refine q_istore_n C Rm.1 (k4 := 3) (i := 3) rfl (lv' := [(3, .int x5), (2, .int x4), (0, .ref x0), (1, .int x1), (4, .int x4), (5, .int x5)]) rfl (by decide) (by decide +kernel) ?_
  refine q_loc [2, 3, 1, 0, 4] rfl ?_
  exact v_X12_look_71 C Rm K hk32 _ _ _ _ _ _ hm
def m_X12_look_32  : Nat → q_H → Nat → Int32 → Int32 → Int32 → Int32 → Option (Int32 × q_H)
  | 0, _, _, _, _, _, _ => none
  | n + 1, h, x0, x1, x2, x3, x4 =>
    if (60 : Int32) < x4 then
      if x1 = 0 then
        some (x2, h)
      else
        some (x3, h)
    else
      (q_ca 12 h x0 (m_X12_alikeAt h x0 x4)).bind fun r7 =>
      if r7 = 0 then
        m_X12_look_71 (m_X12_look_32 n) h x0 x1 x2 x3 x4
      else
        if x2 < 0 then
          m_X12_look_65 (m_X12_look_32 n) h x0 x1 x4 r7
        else
          if r7 < x3 then
            m_X12_look_65 (m_X12_look_32 n) h x0 x1 x4 r7
          else
            m_X12_look_71 (m_X12_look_32 n) h x0 x1 x2 x3 x4
set_option maxRecDepth 20000 in
set_option maxHeartbeats 1000000 in
theorem v_X12_look_32 {Γ : q_G} {sz : Nat} {r : Int32} {h' : q_H} (C : q_C Γ cX12_look RX12) (Rm : q_Rm Γ 6 8 189 0 0)  (K : narrow .int (.int r) = .int r → q_K Γ cX12_look .ireturn sz h' 0 0 [.int r])  : ∀ (n : Nat) (h : q_H) (x0 : Nat) (x1 : Int32) (x2 : Int32) (x3 : Int32) (x4 : Int32), m_X12_look_32 n h x0 x1 x2 x3 x4 = some (r, h') → q_V Γ sz 0 0 h [(0, .ref x0), (1, .int x1), (2, .int x2), (3, .int x3), (4, .int x4)] [] 32 := by
  intro n
  induction n with
  | zero => intro h x0 x1 x2 x3 x4 hm; cases hm
  | succ n ih =>
    intro h x0 x1 x2 x3 x4 hm
    unfold m_X12_look_32 at hm
    refine q_iload C (i := 4) 4 rfl (by decide +kernel) ?_
    refine q_bipush C (n := 60) (v := 60) (by decide) (by decide +kernel) ?_
    refine q_icmp_gt C (off := 41) 77 hm (by decide +kernel) (by decide) (fun _ hm => ?_) (fun _ hm => ?_)
    · refine q_iload_n C (k4 := 1) 1 rfl (by decide +kernel) ?_
      refine q_if_ne C (off := 7) 85 hm (by decide +kernel) (by decide) (fun _ hm => ?_) (fun _ hm => ?_)
      · refine q_iload_n C (k4 := 3) 3 rfl (by decide +kernel) ?_
        exact q_riS hm K rfl (by decide +kernel)
      · refine q_iload_n C (k4 := 2) 2 rfl (by decide +kernel) ?_
        refine q_goto C (off := 4) 86 (by decide +kernel) (by decide) ?_
        exact q_riS hm K rfl (by decide +kernel)
    · refine q_aload_n C (k4 := 0) 0 rfl (by decide +kernel) ?_
      refine q_iload C (i := 4) 4 rfl (by decide +kernel) ?_
      refine q_viP C Rm (As := [.int x4]) (rest := []) Y_X12_alikeAt Yv_X12_alikeAt ml_X12_438 (by decide) (by decide) hm (fun r9 e9 => c_X12_alikeAt _ _ _ _ _ _ _ _ e9) rfl rfl (Nat.le_of_ble_eq_true rfl) (by decide +kernel) (fun r7 hm z8 => ?_)
      refine q_istore C Rm.1 (i := 5) (lv' := [(5, .int r7), (0, .ref x0), (1, .int x1), (2, .int x2), (3, .int x3), (4, .int x4)]) rfl (by decide) (by decide +kernel) ?_
      refine q_iload C (i := 5) 0 rfl (by decide +kernel) ?_
      refine q_if_eq C (off := 22) 71 hm (by decide +kernel) (by decide) (fun _ hm => ?_) (fun _ hm => ?_)
      · refine q_loc [1, 2, 3, 4, 5] rfl ?_
        exact v_X12_look_71 C Rm K ih _ _ _ _ _ _ hm
      · refine q_iload_n C (k4 := 2) 3 rfl (by decide +kernel) ?_
        refine q_if_lt C (off := 12) 65 hm (by decide +kernel) (by decide) (fun _ hm => ?_) (fun _ hm => ?_)
        · refine q_loc [1, 2, 5, 0] rfl ?_
          exact v_X12_look_65 C Rm K ih _ _ _ _ _ hm
        · refine q_iload C (i := 5) 0 rfl (by decide +kernel) ?_
          refine q_iload_n C (k4 := 3) 4 rfl (by decide +kernel) ?_
          refine q_icmp_lt C (off := 6) 65 hm (by decide +kernel) (by decide) (fun _ hm => ?_) (fun _ hm => ?_)
          · refine q_loc [1, 2, 5, 0] rfl ?_
            exact v_X12_look_65 C Rm K ih _ _ _ _ _ hm
          · refine q_goto C (off := 9) 71 (by decide +kernel) (by decide) ?_
            refine q_loc [1, 2, 3, 4, 5] rfl ?_
            exact v_X12_look_71 C Rm K ih _ _ _ _ _ _ hm
def m_X12_look (h : q_H) (a0 : Nat) (a1 : Int32) : Option (Int32 × q_H) :=
  (q_ca 12 h a0 (m_X12_isRope h a0)).bind fun r1 =>
  if r1 = 0 then
    some ((-1 : Int32), h)
  else
    (m_X12_in a1.toInt64 ((0 : Int64)) ((1 : Int64))).bind fun r3 =>
    if r3 = 0 then
      some ((-1 : Int32), h)
    else
      (q_ca 12 h a0 (m_X12_fillsFits h a0)).bind fun h6 =>
      m_X12_look_32 q_fu h6 a0 a1 ((-2 : Int32)) ((-2 : Int32)) ((0 : Int32))
set_option maxRecDepth 20000 in
set_option maxHeartbeats 1000000 in
theorem c_X12_look (l : Launch) (base : Nat) (D : va_G) (tc : Nat → ClassId) (sz : Nat) (h : q_H) (a0 : Nat) (a1 : Int32) {r : Int32} {h' : q_H} (hm : m_X12_look h a0 a1 = some (r, h')) : q_M l yX12_look cX12_look 6 (some .int) 8 189 0 0 base D tc [.ref a0, .int a1] sz h (some (.int r)) sz h' := by
  refine q_starti (by decide) (Nat.le_of_ble_eq_true rfl) (fun Γ B K => ?_)
  obtain ⟨C, Rm, -⟩ := B
  have C : q_C Γ cX12_look RX12 := C
  show q_V Γ sz 0 0 h [(0, .ref a0), (1, .int a1)] [] 0
  unfold m_X12_look at hm
  refine q_aload_n C (k4 := 0) 0 rfl (by decide +kernel) ?_
  refine q_viP C Rm (As := []) (rest := []) Y_X12_isRope Yv_X12_isRope ml_X12_299 (by decide) (by decide) hm (fun r9 e9 => c_X12_isRope _ _ _ _ _ _ _ e9) rfl rfl (Nat.le_of_ble_eq_true rfl) (by decide +kernel) (fun r1 hm z2 => ?_)
  refine q_if_eq C (off := 13) 17 hm (by decide +kernel) (by decide) (fun _ hm => ?_) (fun _ hm => ?_)
  · refine q_iconst C (n := (-1)) (v := (-1)) (by decide) (by decide +kernel) ?_
    exact q_riS hm K rfl (by decide +kernel)
  · refine q_iload_n C (k4 := 1) 1 rfl (by decide +kernel) ?_
    refine q_i2l C (by decide +kernel) ?_
    refine q_lconst C (n := 0) (v := 0) (by decide) (by decide +kernel) ?_
    refine q_lconst C (n := 1) (v := 1) (by decide) (by decide +kernel) ?_
    refine q_siP C Rm (As := [.long a1.toInt64, .long ((0 : Int64)), .long ((1 : Int64))]) (rest := []) Y_X12_in Ys_X12_in ml_X12_121 (by decide) (by decide) hm (fun r9 e9 => c_X12_in _ _ _ _ _ _ _ _ _ e9) rfl rfl (Nat.le_of_ble_eq_true rfl) (by decide +kernel) (fun r3 hm z4 => ?_)
    refine q_if_ne C (off := 5) 19 hm (by decide +kernel) (by decide) (fun _ hm => ?_) (fun _ hm => ?_)
    · refine q_aload_n C (k4 := 0) 0 rfl (by decide +kernel) ?_
      refine q_vvS C Rm (As := []) (rest := []) Y_X12_fillsFits Yv_X12_fillsFits ml_X12_435 (by decide) (by decide) hm (fun h6 e9 => c_X12_fillsFits _ _ _ _ _ _ _ e9) rfl rfl (Nat.le_of_ble_eq_true rfl) (by decide +kernel) (fun h6 hm => ?_)
      refine q_bipush C (n := (-2)) (v := (-2)) (by decide) (by decide +kernel) ?_
      refine q_istore_n C Rm.1 (k4 := 2) (i := 2) rfl (lv' := [(2, .int ((-2 : Int32))), (0, .ref a0), (1, .int a1)]) rfl (by decide) (by decide +kernel) ?_
      refine q_bipush C (n := (-2)) (v := (-2)) (by decide) (by decide +kernel) ?_
      refine q_istore_n C Rm.1 (k4 := 3) (i := 3) rfl (lv' := [(3, .int ((-2 : Int32))), (2, .int ((-2 : Int32))), (0, .ref a0), (1, .int a1)]) rfl (by decide) (by decide +kernel) ?_
      refine q_iconst C (n := 0) (v := 0) (by decide) (by decide +kernel) ?_
      refine q_istore C Rm.1 (i := 4) (lv' := [(4, .int ((0 : Int32))), (3, .int ((-2 : Int32))), (2, .int ((-2 : Int32))), (0, .ref a0), (1, .int a1)]) rfl (by decide) (by decide +kernel) ?_
      refine q_loc [3, 4, 2, 1, 0] rfl ?_
      exact v_X12_look_32 C Rm K _ _ _ _ _ _ _ hm
    · refine q_iconst C (n := (-1)) (v := (-1)) (by decide) (by decide +kernel) ?_
      exact q_riS hm K rfl (by decide +kernel)
def m_X12_canBe_58 (k22 : q_H → Nat → Int32 → Int32 → Int32 → Int32 → Int32 → Int32 → Int32 → Option (Int32 × q_H)) (h : q_H) (x0 : Nat) (x1 : Int32) (x2 : Int32) (x4 : Int32) (x5 : Int32) (x6 : Int32) (x7 : Int32) (x8 : Int32) : Option (Int32 × q_H) :=
  k22 h x0 x1 x2 x4 x5 x6 x7 ((x8 + (-1 : Int32)))
set_option maxRecDepth 20000 in
set_option maxHeartbeats 1000000 in
theorem v_X12_canBe_58 {Γ : q_G} {sz : Nat} {r : Int32} {h' : q_H} (C : q_C Γ cX12_canBe RX12) (Rm : q_Rm Γ 9 7 167 0 0) {k22 : q_H → Nat → Int32 → Int32 → Int32 → Int32 → Int32 → Int32 → Int32 → Option (Int32 × q_H)} (K : narrow .int (.int r) = .int r → q_K Γ cX12_canBe .ireturn sz h' 0 0 [.int r]) (hk22 : ∀ (h : q_H) (x0 : Nat) (x1 : Int32) (x2 : Int32) (x4 : Int32) (x5 : Int32) (x6 : Int32) (x7 : Int32) (x8 : Int32), k22 h x0 x1 x2 x4 x5 x6 x7 x8 = some (r, h') → q_V Γ sz 0 0 h [(0, .ref x0), (1, .int x1), (2, .int x2), (4, .int x4), (5, .int x5), (6, .int x6), (7, .int x7), (8, .int x8)] [] 22) : ∀ (h : q_H) (x0 : Nat) (x1 : Int32) (x2 : Int32) (x4 : Int32) (x5 : Int32) (x6 : Int32) (x7 : Int32) (x8 : Int32), m_X12_canBe_58 k22 h x0 x1 x2 x4 x5 x6 x7 x8 = some (r, h') → q_V Γ sz 0 0 h [(0, .ref x0), (1, .int x1), (2, .int x2), (4, .int x4), (5, .int x5), (6, .int x6), (7, .int x7), (8, .int x8)] [] 58 := by
  intro h x0 x1 x2 x4 x5 x6 x7 x8 hm
  unfold m_X12_canBe_58 at hm
  refine q_iinc C Rm.1 (i := 8) (n := (-1)) (v := (x8 + (-1 : Int32))) 7 rfl (q_inc _ (by decide)) (lv' := [(8, .int ((x8 + (-1 : Int32)))), (0, .ref x0), (1, .int x1), (2, .int x2), (4, .int x4), (5, .int x5), (6, .int x6), (7, .int x7)]) rfl (by decide) (by decide +kernel) ?_
  refine q_goto C (off := -39) 22 (by decide +kernel) (by decide) ?_
  refine q_loc [1, 2, 3, 4, 5, 6, 7, 0] rfl ?_
  exact hk22 _ _ _ _ _ _ _ _ _ hm
def m_X12_canBe_22  : Nat → q_H → Nat → Int32 → Int32 → Int32 → Int32 → Int32 → Int32 → Int32 → Option (Int32 × q_H)
  | 0, _, _, _, _, _, _, _, _, _ => none
  | n + 1, h, x0, x1, x2, x4, x5, x6, x7, x8 =>
    if x8 < x2 then
      (q_gn h x0 12 20).bind fun v5 =>
      (q_si h v5 1 x1 x5).bind fun h6 =>
      (q_ca 12 h6 x0 (m_X12_laysBack h6 x0)).bind fun h8 =>
      if x4 = 0 then
        some (x6, h8)
      else
        some (x7, h8)
    else
      (q_gn h x0 12 20).bind fun v9 =>
      (q_si h v9 1 x1 x8).bind fun h10 =>
      (q_ca 12 h10 x0 (m_X12_begins h10 x0)).bind fun h12 =>
      (q_ca 12 h12 x0 (m_X12_areAllSo h12 x0 ((0 : Int32)))).bind fun (r13, h14) =>
      if r13 = 0 then
        m_X12_canBe_58 (m_X12_canBe_22 n) h14 x0 x1 x2 x4 x5 x6 x7 x8
      else
        m_X12_canBe_58 (m_X12_canBe_22 n) h14 x0 x1 x2 x4 x5 ((x6 + (1 : Int32))) x8 x8
set_option maxRecDepth 20000 in
set_option maxHeartbeats 1000000 in
theorem v_X12_canBe_22 {Γ : q_G} {sz : Nat} {r : Int32} {h' : q_H} (C : q_C Γ cX12_canBe RX12) (Rm : q_Rm Γ 9 7 167 0 0)  (K : narrow .int (.int r) = .int r → q_K Γ cX12_canBe .ireturn sz h' 0 0 [.int r])  : ∀ (n : Nat) (h : q_H) (x0 : Nat) (x1 : Int32) (x2 : Int32) (x4 : Int32) (x5 : Int32) (x6 : Int32) (x7 : Int32) (x8 : Int32), m_X12_canBe_22 n h x0 x1 x2 x4 x5 x6 x7 x8 = some (r, h') → q_V Γ sz 0 0 h [(0, .ref x0), (1, .int x1), (2, .int x2), (4, .int x4), (5, .int x5), (6, .int x6), (7, .int x7), (8, .int x8)] [] 22 := by
  intro n
  induction n with
  | zero => intro h x0 x1 x2 x4 x5 x6 x7 x8 hm; cases hm
  | succ n ih =>
    intro h x0 x1 x2 x4 x5 x6 x7 x8 hm
    unfold m_X12_canBe_22 at hm
    refine q_iload C (i := 8) 7 rfl (by decide +kernel) ?_
    refine q_iload_n C (k4 := 2) 2 rfl (by decide +kernel) ?_
    refine q_icmp_lt C (off := 39) 64 hm (by decide +kernel) (by decide) (fun _ hm => ?_) (fun _ hm => ?_)
    · refine q_aload_n C (k4 := 0) 0 rfl (by decide +kernel) ?_
      refine q_getn C fl_12_39 hm (by decide +kernel) (fun v5 hm => ?_)
      refine q_iload_n C (k4 := 1) 1 rfl (by decide +kernel) ?_
      refine q_iload C (i := 5) 4 rfl (by decide +kernel) ?_
      refine q_iw C hm (by decide +kernel) (fun h6 hm => ?_)
      refine q_aload_n C (k4 := 0) 0 rfl (by decide +kernel) ?_
      refine q_vvS C Rm (As := []) (rest := []) Y_X12_laysBack Yv_X12_laysBack ml_X12_389 (by decide) (by decide) hm (fun h8 e9 => c_X12_laysBack _ _ _ _ _ _ _ e9) rfl rfl (Nat.le_of_ble_eq_true rfl) (by decide +kernel) (fun h8 hm => ?_)
      refine q_iload C (i := 4) 3 rfl (by decide +kernel) ?_
      refine q_if_ne C (off := 8) 86 hm (by decide +kernel) (by decide) (fun _ hm => ?_) (fun _ hm => ?_)
      · refine q_iload C (i := 7) 6 rfl (by decide +kernel) ?_
        exact q_riS hm K rfl (by decide +kernel)
      · refine q_iload C (i := 6) 5 rfl (by decide +kernel) ?_
        refine q_goto C (off := 5) 88 (by decide +kernel) (by decide) ?_
        exact q_riS hm K rfl (by decide +kernel)
    · refine q_aload_n C (k4 := 0) 0 rfl (by decide +kernel) ?_
      refine q_getn C fl_12_39 hm (by decide +kernel) (fun v9 hm => ?_)
      refine q_iload_n C (k4 := 1) 1 rfl (by decide +kernel) ?_
      refine q_iload C (i := 8) 7 rfl (by decide +kernel) ?_
      refine q_iw C hm (by decide +kernel) (fun h10 hm => ?_)
      refine q_aload_n C (k4 := 0) 0 rfl (by decide +kernel) ?_
      refine q_vvS C Rm (As := []) (rest := []) Y_X12_begins Yv_X12_begins ml_X12_257 (by decide) (by decide) hm (fun h12 e9 => c_X12_begins _ _ _ _ _ _ _ e9) rfl rfl (Nat.le_of_ble_eq_true rfl) (by decide +kernel) (fun h12 hm => ?_)
      refine q_aload_n C (k4 := 0) 0 rfl (by decide +kernel) ?_
      refine q_iconst C (n := 0) (v := 0) (by decide) (by decide +kernel) ?_
      refine q_viS C Rm (As := [.int ((0 : Int32))]) (rest := []) Y_X12_areAllSo Yv_X12_areAllSo ml_X12_432 (by decide) (by decide) hm (fun r13 h14 e9 => c_X12_areAllSo _ _ _ _ _ _ _ _ e9) rfl rfl (Nat.le_of_ble_eq_true rfl) (by decide +kernel) (fun r13 h14 hm z15 => ?_)
      refine q_if_ne C (off := 6) 51 hm (by decide +kernel) (by decide) (fun _ hm => ?_) (fun _ hm => ?_)
      · refine q_iload C (i := 8) 7 rfl (by decide +kernel) ?_
        refine q_istore C Rm.1 (i := 7) (lv' := [(7, .int x8), (0, .ref x0), (1, .int x1), (2, .int x2), (4, .int x4), (5, .int x5), (6, .int x6), (8, .int x8)]) rfl (by decide) (by decide +kernel) ?_
        refine q_iinc C Rm.1 (i := 6) (n := 1) (v := (x6 + (1 : Int32))) 6 rfl (q_inc _ (by decide)) (lv' := [(6, .int ((x6 + (1 : Int32)))), (7, .int x8), (0, .ref x0), (1, .int x1), (2, .int x2), (4, .int x4), (5, .int x5), (8, .int x8)]) rfl (by decide) (by decide +kernel) ?_
        refine q_loc [2, 3, 4, 5, 6, 0, 1, 7] rfl ?_
        exact v_X12_canBe_58 C Rm K ih _ _ _ _ _ _ _ _ _ hm
      · refine q_goto C (off := 10) 58 (by decide +kernel) (by decide) ?_
        exact v_X12_canBe_58 C Rm K ih _ _ _ _ _ _ _ _ _ hm
def m_X12_canBe (h : q_H) (a0 : Nat) (a1 : Int32) (a2 : Int32) (a3 : Int32) (a4 : Int32) : Option (Int32 × q_H) :=
  (q_gn h a0 12 20).bind fun v1 =>
  (q_ai h v1 1 a1).bind fun v2 =>
  (q_ca 12 h a0 (m_X12_keeps h a0)).bind fun h4 =>
  m_X12_canBe_22 q_fu h4 a0 a1 a2 a4 v2 ((0 : Int32)) ((-2 : Int32)) a3
set_option maxRecDepth 20000 in
set_option maxHeartbeats 1000000 in
theorem c_X12_canBe (l : Launch) (base : Nat) (D : va_G) (tc : Nat → ClassId) (sz : Nat) (h : q_H) (a0 : Nat) (a1 : Int32) (a2 : Int32) (a3 : Int32) (a4 : Int32) {r : Int32} {h' : q_H} (hm : m_X12_canBe h a0 a1 a2 a3 a4 = some (r, h')) : q_M l yX12_canBe cX12_canBe 9 (some .int) 7 167 0 0 base D tc [.ref a0, .int a1, .int a2, .int a3, .int a4] sz h (some (.int r)) sz h' := by
  refine q_starti (by decide) (Nat.le_of_ble_eq_true rfl) (fun Γ B K => ?_)
  obtain ⟨C, Rm, -⟩ := B
  have C : q_C Γ cX12_canBe RX12 := C
  show q_V Γ sz 0 0 h [(0, .ref a0), (1, .int a1), (2, .int a2), (3, .int a3), (4, .int a4)] [] 0
  unfold m_X12_canBe at hm
  refine q_aload_n C (k4 := 0) 0 rfl (by decide +kernel) ?_
  refine q_getn C fl_12_39 hm (by decide +kernel) (fun v1 hm => ?_)
  refine q_iload_n C (k4 := 1) 1 rfl (by decide +kernel) ?_
  refine q_ir C hm (by decide +kernel) (fun v2 hm => ?_)
  refine q_istore C Rm.1 (i := 5) (lv' := [(5, .int v2), (0, .ref a0), (1, .int a1), (2, .int a2), (3, .int a3), (4, .int a4)]) rfl (by decide) (by decide +kernel) ?_
  refine q_iconst C (n := 0) (v := 0) (by decide) (by decide +kernel) ?_
  refine q_istore C Rm.1 (i := 6) (lv' := [(6, .int ((0 : Int32))), (5, .int v2), (0, .ref a0), (1, .int a1), (2, .int a2), (3, .int a3), (4, .int a4)]) rfl (by decide) (by decide +kernel) ?_
  refine q_bipush C (n := (-2)) (v := (-2)) (by decide) (by decide +kernel) ?_
  refine q_istore C Rm.1 (i := 7) (lv' := [(7, .int ((-2 : Int32))), (6, .int ((0 : Int32))), (5, .int v2), (0, .ref a0), (1, .int a1), (2, .int a2), (3, .int a3), (4, .int a4)]) rfl (by decide) (by decide +kernel) ?_
  refine q_aload_n C (k4 := 0) 3 rfl (by decide +kernel) ?_
  refine q_vvS C Rm (As := []) (rest := []) Y_X12_keeps Yv_X12_keeps ml_X12_383 (by decide) (by decide) hm (fun h4 e9 => c_X12_keeps _ _ _ _ _ _ _ e9) rfl rfl (Nat.le_of_ble_eq_true rfl) (by decide +kernel) (fun h4 hm => ?_)
  refine q_iload_n C (k4 := 3) 6 rfl (by decide +kernel) ?_
  refine q_istore C Rm.1 (i := 8) (lv' := [(8, .int a3), (7, .int ((-2 : Int32))), (6, .int ((0 : Int32))), (5, .int v2), (0, .ref a0), (1, .int a1), (2, .int a2), (3, .int a3), (4, .int a4)]) rfl (by decide) (by decide +kernel) ?_
  refine q_loc [4, 5, 6, 8, 3, 2, 1, 0] rfl ?_
  exact v_X12_canBe_22 C Rm K _ _ _ _ _ _ _ _ _ _ hm
def m_X12_strengths (h : q_H) (a0 : Nat) (a1 : Int32) (a2 : Int32) : Option (Int32 × q_H) :=
  (q_ca 12 h a0 (m_X12_isPuller h a0 a1)).bind fun r1 =>
  if r1 = 0 then
    some ((-1 : Int32), h)
  else
    (m_X12_in a2.toInt64 ((0 : Int64)) ((1 : Int64))).bind fun r3 =>
    if r3 = 0 then
      some ((-1 : Int32), h)
    else
      (q_ca 12 h a0 (m_X12_canBe h a0 (((52 : Int32) + a1)) ((1 : Int32)) ((40 : Int32)) a2)).bind fun (r5, h6) =>
      some (r5, h6)
set_option maxRecDepth 20000 in
set_option maxHeartbeats 1000000 in
theorem c_X12_strengths (l : Launch) (base : Nat) (D : va_G) (tc : Nat → ClassId) (sz : Nat) (h : q_H) (a0 : Nat) (a1 : Int32) (a2 : Int32) {r : Int32} {h' : q_H} (hm : m_X12_strengths h a0 a1 a2 = some (r, h')) : q_M l yX12_strengths cX12_strengths 3 (some .int) 8 195 0 0 base D tc [.ref a0, .int a1, .int a2] sz h (some (.int r)) sz h' := by
  refine q_starti (by decide) (Nat.le_of_ble_eq_true rfl) (fun Γ B K => ?_)
  obtain ⟨C, Rm, -⟩ := B
  have C : q_C Γ cX12_strengths RX12 := C
  show q_V Γ sz 0 0 h [(0, .ref a0), (1, .int a1), (2, .int a2)] [] 0
  unfold m_X12_strengths at hm
  refine q_aload_n C (k4 := 0) 0 rfl (by decide +kernel) ?_
  refine q_iload_n C (k4 := 1) 1 rfl (by decide +kernel) ?_
  refine q_viP C Rm (As := [.int a1]) (rest := []) Y_X12_isPuller Yv_X12_isPuller ml_X12_278 (by decide) (by decide) hm (fun r9 e9 => c_X12_isPuller _ _ _ _ _ _ _ _ e9) rfl rfl (Nat.le_of_ble_eq_true rfl) (by decide +kernel) (fun r1 hm z2 => ?_)
  refine q_if_eq C (off := 28) 33 hm (by decide +kernel) (by decide) (fun _ hm => ?_) (fun _ hm => ?_)
  · refine q_iconst C (n := (-1)) (v := (-1)) (by decide) (by decide +kernel) ?_
    exact q_riS hm K rfl (by decide +kernel)
  · refine q_iload_n C (k4 := 2) 2 rfl (by decide +kernel) ?_
    refine q_i2l C (by decide +kernel) ?_
    refine q_lconst C (n := 0) (v := 0) (by decide) (by decide +kernel) ?_
    refine q_lconst C (n := 1) (v := 1) (by decide) (by decide +kernel) ?_
    refine q_siP C Rm (As := [.long a2.toInt64, .long ((0 : Int64)), .long ((1 : Int64))]) (rest := []) Y_X12_in Ys_X12_in ml_X12_121 (by decide) (by decide) hm (fun r9 e9 => c_X12_in _ _ _ _ _ _ _ _ _ e9) rfl rfl (Nat.le_of_ble_eq_true rfl) (by decide +kernel) (fun r3 hm z4 => ?_)
    refine q_if_eq C (off := 18) 33 hm (by decide +kernel) (by decide) (fun _ hm => ?_) (fun _ hm => ?_)
    · refine q_iconst C (n := (-1)) (v := (-1)) (by decide) (by decide +kernel) ?_
      exact q_riS hm K rfl (by decide +kernel)
    · refine q_aload_n C (k4 := 0) 0 rfl (by decide +kernel) ?_
      refine q_bipush C (n := 52) (v := 52) (by decide) (by decide +kernel) ?_
      refine q_iload_n C (k4 := 1) 1 rfl (by decide +kernel) ?_
      refine q_iadd C (by decide +kernel) ?_
      refine q_iconst C (n := 1) (v := 1) (by decide) (by decide +kernel) ?_
      refine q_bipush C (n := 40) (v := 40) (by decide) (by decide +kernel) ?_
      refine q_iload_n C (k4 := 2) 2 rfl (by decide +kernel) ?_
      refine q_viS C Rm (As := [.int (((52 : Int32) + a1)), .int ((1 : Int32)), .int ((40 : Int32)), .int a2]) (rest := []) Y_X12_canBe Yv_X12_canBe ml_X12_441 (by decide) (by decide) hm (fun r5 h6 e9 => c_X12_canBe _ _ _ _ _ _ _ _ _ _ _ e9) rfl rfl (Nat.le_of_ble_eq_true rfl) (by decide +kernel) (fun r5 h6 hm z7 => ?_)
      refine q_goto C (off := 4) 34 (by decide +kernel) (by decide) ?_
      exact q_riS hm K rfl (by decide +kernel)
def m_X12_winds (h : q_H) (a0 : Nat) (a1 : Int32) (a2 : Int32) : Option (Int32 × q_H) :=
  (q_ca 12 h a0 (m_X12_isPuller h a0 a1)).bind fun r1 =>
  if r1 = 0 then
    some ((-1 : Int32), h)
  else
    (m_X12_in a2.toInt64 ((0 : Int64)) ((1 : Int64))).bind fun r3 =>
    if r3 = 0 then
      some ((-1 : Int32), h)
    else
      (q_ca 12 h a0 (m_X12_canBe h a0 (((76 : Int32) + a1)) ((0 : Int32)) ((60 : Int32)) a2)).bind fun (r5, h6) =>
      some (r5, h6)
set_option maxRecDepth 20000 in
set_option maxHeartbeats 1000000 in
theorem c_X12_winds (l : Launch) (base : Nat) (D : va_G) (tc : Nat → ClassId) (sz : Nat) (h : q_H) (a0 : Nat) (a1 : Int32) (a2 : Int32) {r : Int32} {h' : q_H} (hm : m_X12_winds h a0 a1 a2 = some (r, h')) : q_M l yX12_winds cX12_winds 3 (some .int) 8 195 0 0 base D tc [.ref a0, .int a1, .int a2] sz h (some (.int r)) sz h' := by
  refine q_starti (by decide) (Nat.le_of_ble_eq_true rfl) (fun Γ B K => ?_)
  obtain ⟨C, Rm, -⟩ := B
  have C : q_C Γ cX12_winds RX12 := C
  show q_V Γ sz 0 0 h [(0, .ref a0), (1, .int a1), (2, .int a2)] [] 0
  unfold m_X12_winds at hm
  refine q_aload_n C (k4 := 0) 0 rfl (by decide +kernel) ?_
  refine q_iload_n C (k4 := 1) 1 rfl (by decide +kernel) ?_
  refine q_viP C Rm (As := [.int a1]) (rest := []) Y_X12_isPuller Yv_X12_isPuller ml_X12_278 (by decide) (by decide) hm (fun r9 e9 => c_X12_isPuller _ _ _ _ _ _ _ _ e9) rfl rfl (Nat.le_of_ble_eq_true rfl) (by decide +kernel) (fun r1 hm z2 => ?_)
  refine q_if_eq C (off := 28) 33 hm (by decide +kernel) (by decide) (fun _ hm => ?_) (fun _ hm => ?_)
  · refine q_iconst C (n := (-1)) (v := (-1)) (by decide) (by decide +kernel) ?_
    exact q_riS hm K rfl (by decide +kernel)
  · refine q_iload_n C (k4 := 2) 2 rfl (by decide +kernel) ?_
    refine q_i2l C (by decide +kernel) ?_
    refine q_lconst C (n := 0) (v := 0) (by decide) (by decide +kernel) ?_
    refine q_lconst C (n := 1) (v := 1) (by decide) (by decide +kernel) ?_
    refine q_siP C Rm (As := [.long a2.toInt64, .long ((0 : Int64)), .long ((1 : Int64))]) (rest := []) Y_X12_in Ys_X12_in ml_X12_121 (by decide) (by decide) hm (fun r9 e9 => c_X12_in _ _ _ _ _ _ _ _ _ e9) rfl rfl (Nat.le_of_ble_eq_true rfl) (by decide +kernel) (fun r3 hm z4 => ?_)
    refine q_if_eq C (off := 18) 33 hm (by decide +kernel) (by decide) (fun _ hm => ?_) (fun _ hm => ?_)
    · refine q_iconst C (n := (-1)) (v := (-1)) (by decide) (by decide +kernel) ?_
      exact q_riS hm K rfl (by decide +kernel)
    · refine q_aload_n C (k4 := 0) 0 rfl (by decide +kernel) ?_
      refine q_bipush C (n := 76) (v := 76) (by decide) (by decide +kernel) ?_
      refine q_iload_n C (k4 := 1) 1 rfl (by decide +kernel) ?_
      refine q_iadd C (by decide +kernel) ?_
      refine q_iconst C (n := 0) (v := 0) (by decide) (by decide +kernel) ?_
      refine q_bipush C (n := 60) (v := 60) (by decide) (by decide +kernel) ?_
      refine q_iload_n C (k4 := 2) 2 rfl (by decide +kernel) ?_
      refine q_viS C Rm (As := [.int (((76 : Int32) + a1)), .int ((0 : Int32)), .int ((60 : Int32)), .int a2]) (rest := []) Y_X12_canBe Yv_X12_canBe ml_X12_441 (by decide) (by decide) hm (fun r5 h6 e9 => c_X12_canBe _ _ _ _ _ _ _ _ _ _ _ e9) rfl rfl (Nat.le_of_ble_eq_true rfl) (by decide +kernel) (fun r5 h6 hm z7 => ?_)
      refine q_goto C (off := 4) 34 (by decide +kernel) (by decide) ?_
      exact q_riS hm K rfl (by decide +kernel)
def m_X12_seed (h : q_H) (a0 : Nat) (a1 : Int32) : Option (Int32 × q_H) :=
  if 0 ≤ a1 then
    (q_gi h a0 12 22).bind fun v1 =>
    (q_pf h a0 12 22 (.int a1)).bind fun h2 =>
    some (v1, h2)
  else
    some ((-1 : Int32), h)
set_option maxRecDepth 20000 in
set_option maxHeartbeats 1000000 in
theorem c_X12_seed (l : Launch) (base : Nat) (D : va_G) (tc : Nat → ClassId) (sz : Nat) (h : q_H) (a0 : Nat) (a1 : Int32) {r : Int32} {h' : q_H} (hm : m_X12_seed h a0 a1 = some (r, h')) : q_M l yX12_seed cX12_seed 3 (some .int) 0 0 0 0 base D tc [.ref a0, .int a1] sz h (some (.int r)) sz h' := by
  refine q_starti (by decide) (Nat.le_of_ble_eq_true rfl) (fun Γ B K => ?_)
  obtain ⟨C, Rm, -⟩ := B
  have C : q_C Γ cX12_seed RX12 := C
  show q_V Γ sz 0 0 h [(0, .ref a0), (1, .int a1)] [] 0
  unfold m_X12_seed at hm
  refine q_iload_n C (k4 := 1) 1 rfl (by decide +kernel) ?_
  refine q_if_ge C (off := 5) 6 hm (by decide +kernel) (by decide) (fun _ hm => ?_) (fun _ hm => ?_)
  · refine q_aload_n C (k4 := 0) 0 rfl (by decide +kernel) ?_
    refine q_geti C fl_12_445 hm (by decide +kernel) (fun v1 hm => ?_)
    refine q_istore_n C Rm.1 (k4 := 2) (i := 2) rfl (lv' := [(2, .int v1), (0, .ref a0), (1, .int a1)]) rfl (by decide) (by decide +kernel) ?_
    refine q_aload_n C (k4 := 0) 1 rfl (by decide +kernel) ?_
    refine q_iload_n C (k4 := 1) 2 rfl (by decide +kernel) ?_
    refine q_putf C fl_12_445 hm rfl rfl (by decide +kernel) (fun h2 hm => ?_)
    refine q_iload_n C (k4 := 2) 0 rfl (by decide +kernel) ?_
    exact q_riS hm K rfl (by decide +kernel)
  · refine q_iconst C (n := (-1)) (v := (-1)) (by decide) (by decide +kernel) ?_
    exact q_riS hm K rfl (by decide +kernel)
def m_X12_draw (h : q_H) (a0 : Nat) (a1 : Int32) : Option (Int32 × q_H) :=
  (q_gl h a0 12 32).bind fun v1 =>
  (q_pf h a0 12 32 (.long ((q_rml (((v1 * (1103515245 : Int64)) + (12345 : Int64))) ((2147483648 : Int64)))))).bind fun h2 =>
  (q_gl h2 a0 12 32).bind fun v3 =>
  if a1.toInt64 = 0 then none else
  some (((q_rml ((v3 / (65536 : Int64))) a1.toInt64)).toInt32, h2)
set_option maxRecDepth 20000 in
set_option maxHeartbeats 1000000 in
theorem c_X12_draw (l : Launch) (base : Nat) (D : va_G) (tc : Nat → ClassId) (sz : Nat) (h : q_H) (a0 : Nat) (a1 : Int32) {r : Int32} {h' : q_H} (hm : m_X12_draw h a0 a1 = some (r, h')) : q_M l yX12_draw cX12_draw 2 (some .int) 0 0 0 0 base D tc [.ref a0, .int a1] sz h (some (.int r)) sz h' := by
  refine q_starti (by decide) (Nat.le_of_ble_eq_true rfl) (fun Γ B K => ?_)
  obtain ⟨C, Rm, -⟩ := B
  have C : q_C Γ cX12_draw RX12 := C
  show q_V Γ sz 0 0 h [(0, .ref a0), (1, .int a1)] [] 0
  unfold m_X12_draw at hm
  refine q_aload_n C (k4 := 0) 0 rfl (by decide +kernel) ?_
  refine q_aload_n C (k4 := 0) 0 rfl (by decide +kernel) ?_
  refine q_getl C fl_12_448 hm (by decide +kernel) (fun v1 hm => ?_)
  refine q_ldc2 C (idx := 452) (v := 1103515245) (q_m8 14 rfl rfl) (by decide +kernel) ?_
  refine q_lmul C (by decide +kernel) ?_
  refine q_ldc2 C (idx := 454) (v := 12345) (q_m8 15 rfl rfl) (by decide +kernel) ?_
  refine q_ladd C (by decide +kernel) ?_
  refine q_ldc2 C (idx := 456) (v := 2147483648) (q_m8 16 rfl rfl) (by decide +kernel) ?_
  refine q_lrem C (by decide) (by decide +kernel) ?_
  refine q_putf C fl_12_448 hm rfl rfl (by decide +kernel) (fun h2 hm => ?_)
  refine q_aload_n C (k4 := 0) 0 rfl (by decide +kernel) ?_
  refine q_getl C fl_12_448 hm (by decide +kernel) (fun v3 hm => ?_)
  refine q_ldc2 C (idx := 458) (v := 65536) (q_m8 17 rfl rfl) (by decide +kernel) ?_
  refine q_ldiv C (by decide) (by decide +kernel) ?_
  refine q_iload_n C (k4 := 1) 1 rfl (by decide +kernel) ?_
  refine q_i2l C (by decide +kernel) ?_
  refine q_lremc C hm (by decide +kernel) (fun hm => ?_)
  refine q_l2i C (by decide +kernel) ?_
  exact q_riS hm K rfl (by decide +kernel)
def m_X12_rain_135 (k78 : q_H → Nat → Int32 → Int32 → Int32 → Int32 → Int32 → Int32 → Int32 → Option (Int32 × q_H)) (k87 : q_H → Nat → Int32 → Int32 → Int32 → Int32 → Int32 → Int32 → Int32 → Int32 → Option (Int32 × q_H)) (h : q_H) (x0 : Nat) (x1 : Int32) (x2 : Int32) (x3 : Int32) (x4 : Int32) (x5 : Int32) (x6 : Int32) (x7 : Int32) (x8 : Int32) : Option (Int32 × q_H) :=
  (q_ca 12 h x0 (m_X12_passes h x0)).bind fun h32 =>
  k87 h32 x0 x1 x2 x3 x4 x5 x6 x7 ((x8 + (1 : Int32)))
set_option maxRecDepth 20000 in
set_option maxHeartbeats 1000000 in
theorem v_X12_rain_135 {Γ : q_G} {sz : Nat} {r : Int32} {h' : q_H} (C : q_C Γ cX12_rain RX12) (Rm : q_Rm Γ 9 6 144 0 0) {k78 : q_H → Nat → Int32 → Int32 → Int32 → Int32 → Int32 → Int32 → Int32 → Option (Int32 × q_H)} {k87 : q_H → Nat → Int32 → Int32 → Int32 → Int32 → Int32 → Int32 → Int32 → Int32 → Option (Int32 × q_H)} (K : narrow .int (.int r) = .int r → q_K Γ cX12_rain .ireturn sz h' 0 0 [.int r]) (hk78 : ∀ (h : q_H) (x0 : Nat) (x1 : Int32) (x2 : Int32) (x3 : Int32) (x4 : Int32) (x5 : Int32) (x6 : Int32) (x7 : Int32), k78 h x0 x1 x2 x3 x4 x5 x6 x7 = some (r, h') → q_V Γ sz 0 0 h [(0, .ref x0), (1, .int x1), (2, .int x2), (3, .int x3), (4, .int x4), (5, .int x5), (6, .int x6), (7, .int x7)] [] 78) (hk87 : ∀ (h : q_H) (x0 : Nat) (x1 : Int32) (x2 : Int32) (x3 : Int32) (x4 : Int32) (x5 : Int32) (x6 : Int32) (x7 : Int32) (x8 : Int32), k87 h x0 x1 x2 x3 x4 x5 x6 x7 x8 = some (r, h') → q_V Γ sz 0 0 h [(0, .ref x0), (1, .int x1), (2, .int x2), (3, .int x3), (4, .int x4), (5, .int x5), (6, .int x6), (7, .int x7), (8, .int x8)] [] 87) : ∀ (h : q_H) (x0 : Nat) (x1 : Int32) (x2 : Int32) (x3 : Int32) (x4 : Int32) (x5 : Int32) (x6 : Int32) (x7 : Int32) (x8 : Int32), m_X12_rain_135 k78 k87 h x0 x1 x2 x3 x4 x5 x6 x7 x8 = some (r, h') → q_V Γ sz 0 0 h [(0, .ref x0), (1, .int x1), (2, .int x2), (3, .int x3), (4, .int x4), (5, .int x5), (6, .int x6), (7, .int x7), (8, .int x8)] [] 135 := by
  intro h x0 x1 x2 x3 x4 x5 x6 x7 x8 hm
  unfold m_X12_rain_135 at hm
  refine q_aload_n C (k4 := 0) 0 rfl (by decide +kernel) ?_
  refine q_vvS C Rm (As := []) (rest := []) Y_X12_passes Yv_X12_passes ml_X12_347 (by decide) (by decide) hm (fun h32 e9 => c_X12_passes _ _ _ _ _ _ _ e9) rfl rfl (Nat.le_of_ble_eq_true rfl) (by decide +kernel) (fun h32 hm => ?_)
  refine q_iinc C Rm.1 (i := 8) (n := 1) (v := (x8 + (1 : Int32))) 8 rfl (q_inc _ (by decide)) (lv' := [(8, .int ((x8 + (1 : Int32)))), (0, .ref x0), (1, .int x1), (2, .int x2), (3, .int x3), (4, .int x4), (5, .int x5), (6, .int x6), (7, .int x7)]) rfl (by decide) (by decide +kernel) ?_
  refine q_goto C (off := -55) 87 (by decide +kernel) (by decide) ?_
  refine q_loc [1, 2, 3, 4, 5, 6, 7, 8, 0] rfl ?_
  exact hk87 _ _ _ _ _ _ _ _ _ _ hm
def m_X12_rain_168 (k78 : q_H → Nat → Int32 → Int32 → Int32 → Int32 → Int32 → Int32 → Int32 → Option (Int32 × q_H)) (h : q_H) (x0 : Nat) (x1 : Int32) (x2 : Int32) (x3 : Int32) (x4 : Int32) (x6 : Int32) (x7 : Int32) (s0 : Int32) (s1 : Int32) : Option (Int32 × q_H) :=
  (q_gn h x0 12 20).bind fun v33 =>
  (q_ai h v33 1 ((11 : Int32))).bind fun v34 =>
  (q_ca 12 h x0 (m_X12_laysBack h x0)).bind fun h36 =>
  k78 h36 x0 x1 x2 x3 x4 ((s1 + s0)) ((x6 + (v34 + (200 : Int32)))) ((x7 + (1 : Int32)))
set_option maxRecDepth 20000 in
set_option maxHeartbeats 1000000 in
theorem v_X12_rain_168 {Γ : q_G} {sz : Nat} {r : Int32} {h' : q_H} (C : q_C Γ cX12_rain RX12) (Rm : q_Rm Γ 9 6 144 0 0) {k78 : q_H → Nat → Int32 → Int32 → Int32 → Int32 → Int32 → Int32 → Int32 → Option (Int32 × q_H)} (K : narrow .int (.int r) = .int r → q_K Γ cX12_rain .ireturn sz h' 0 0 [.int r]) (hk78 : ∀ (h : q_H) (x0 : Nat) (x1 : Int32) (x2 : Int32) (x3 : Int32) (x4 : Int32) (x5 : Int32) (x6 : Int32) (x7 : Int32), k78 h x0 x1 x2 x3 x4 x5 x6 x7 = some (r, h') → q_V Γ sz 0 0 h [(0, .ref x0), (1, .int x1), (2, .int x2), (3, .int x3), (4, .int x4), (5, .int x5), (6, .int x6), (7, .int x7)] [] 78) : ∀ (h : q_H) (x0 : Nat) (x1 : Int32) (x2 : Int32) (x3 : Int32) (x4 : Int32) (x6 : Int32) (x7 : Int32) (s0 : Int32) (s1 : Int32), m_X12_rain_168 k78 h x0 x1 x2 x3 x4 x6 x7 s0 s1 = some (r, h') → q_V Γ sz 0 0 h [(0, .ref x0), (1, .int x1), (2, .int x2), (3, .int x3), (4, .int x4), (6, .int x6), (7, .int x7)] [.int s0, .int s1] 168 := by
  intro h x0 x1 x2 x3 x4 x6 x7 s0 s1 hm
  unfold m_X12_rain_168 at hm
  refine q_iadd C (by decide +kernel) ?_
  refine q_istore C Rm.1 (i := 5) (lv' := [(5, .int ((s1 + s0))), (0, .ref x0), (1, .int x1), (2, .int x2), (3, .int x3), (4, .int x4), (6, .int x6), (7, .int x7)]) rfl (by decide) (by decide +kernel) ?_
  refine q_iload C (i := 6) 6 rfl (by decide +kernel) ?_
  refine q_aload_n C (k4 := 0) 1 rfl (by decide +kernel) ?_
  refine q_getn C fl_12_39 hm (by decide +kernel) (fun v33 hm => ?_)
  refine q_bipush C (n := 11) (v := 11) (by decide) (by decide +kernel) ?_
  refine q_ir C hm (by decide +kernel) (fun v34 hm => ?_)
  refine q_sipush C (n := 200) (v := 200) (by decide) (by decide +kernel) ?_
  refine q_iadd C (by decide +kernel) ?_
  refine q_iadd C (by decide +kernel) ?_
  refine q_istore C Rm.1 (i := 6) (lv' := [(6, .int ((x6 + (v34 + (200 : Int32))))), (5, .int ((s1 + s0))), (0, .ref x0), (1, .int x1), (2, .int x2), (3, .int x3), (4, .int x4), (7, .int x7)]) rfl (by decide) (by decide +kernel) ?_
  refine q_aload_n C (k4 := 0) 2 rfl (by decide +kernel) ?_
  refine q_vvS C Rm (As := []) (rest := []) Y_X12_laysBack Yv_X12_laysBack ml_X12_389 (by decide) (by decide) hm (fun h36 e9 => c_X12_laysBack _ _ _ _ _ _ _ e9) rfl rfl (Nat.le_of_ble_eq_true rfl) (by decide +kernel) (fun h36 hm => ?_)
  refine q_iinc C Rm.1 (i := 7) (n := 1) (v := (x7 + (1 : Int32))) 7 rfl (q_inc _ (by decide)) (lv' := [(7, .int ((x7 + (1 : Int32)))), (6, .int ((x6 + (v34 + (200 : Int32))))), (5, .int ((s1 + s0))), (0, .ref x0), (1, .int x1), (2, .int x2), (3, .int x3), (4, .int x4)]) rfl (by decide) (by decide +kernel) ?_
  refine q_goto C (off := -116) 78 (by decide +kernel) (by decide) ?_
  refine q_loc [3, 4, 5, 6, 7, 2, 1, 0] rfl ?_
  exact hk78 _ _ _ _ _ _ _ _ _ hm
def m_X12_rain_87 (k78 : q_H → Nat → Int32 → Int32 → Int32 → Int32 → Int32 → Int32 → Int32 → Option (Int32 × q_H)) : Nat → q_H → Nat → Int32 → Int32 → Int32 → Int32 → Int32 → Int32 → Int32 → Int32 → Option (Int32 × q_H)
  | 0, _, _, _, _, _, _, _, _, _, _ => none
  | n + 1, h, x0, x1, x2, x3, x4, x5, x6, x7, x8 =>
    if x2 ≤ x8 then
      (q_gn h x0 12 20).bind fun v15 =>
      (q_ai h v15 1 ((11 : Int32))).bind fun v16 =>
      (q_gn h x0 12 20).bind fun v17 =>
      (q_ai h v17 1 ((1 : Int32))).bind fun v18 =>
      if v16 < v18 then
        m_X12_rain_168 k78 h x0 x1 x2 x3 x4 x6 x7 ((0 : Int32)) x5
      else
        m_X12_rain_168 k78 h x0 x1 x2 x3 x4 x6 x7 ((1 : Int32)) x5
    else
      (q_ca 12 h x0 (m_X12_draw h x0 ((100 : Int32)))).bind fun (r19, h20) =>
      if x3 ≤ r19 then
        m_X12_rain_135 k78 (m_X12_rain_87 k78 n) h20 x0 x1 x2 x3 x4 x5 x6 x7 x8
      else
        (q_gn h20 x0 12 20).bind fun v22 =>
        (q_ai h20 v22 1 ((3 : Int32))).bind fun v23 =>
        if v23 ≤ 0 then
          m_X12_rain_135 k78 (m_X12_rain_87 k78 n) h20 x0 x1 x2 x3 x4 x5 x6 x7 x8
        else
          (q_gn h20 x0 12 20).bind fun v24 =>
          (q_gn h20 x0 12 20).bind fun v25 =>
          (q_ai h20 v25 1 ((3 : Int32))).bind fun v26 =>
          (q_ca 12 h20 x0 (m_X12_draw h20 x0 v26)).bind fun (r27, h28) =>
          (q_si h28 v24 1 ((((12 : Int32) + ((5 : Int32) * r27)) + (3 : Int32))) ((0 : Int32))).bind fun h30 =>
          m_X12_rain_135 k78 (m_X12_rain_87 k78 n) h30 x0 x1 x2 x3 x4 x5 x6 x7 x8
set_option maxRecDepth 20000 in
set_option maxHeartbeats 1000000 in
theorem v_X12_rain_87 {Γ : q_G} {sz : Nat} {r : Int32} {h' : q_H} (C : q_C Γ cX12_rain RX12) (Rm : q_Rm Γ 9 6 144 0 0) {k78 : q_H → Nat → Int32 → Int32 → Int32 → Int32 → Int32 → Int32 → Int32 → Option (Int32 × q_H)} (K : narrow .int (.int r) = .int r → q_K Γ cX12_rain .ireturn sz h' 0 0 [.int r]) (hk78 : ∀ (h : q_H) (x0 : Nat) (x1 : Int32) (x2 : Int32) (x3 : Int32) (x4 : Int32) (x5 : Int32) (x6 : Int32) (x7 : Int32), k78 h x0 x1 x2 x3 x4 x5 x6 x7 = some (r, h') → q_V Γ sz 0 0 h [(0, .ref x0), (1, .int x1), (2, .int x2), (3, .int x3), (4, .int x4), (5, .int x5), (6, .int x6), (7, .int x7)] [] 78) : ∀ (n : Nat) (h : q_H) (x0 : Nat) (x1 : Int32) (x2 : Int32) (x3 : Int32) (x4 : Int32) (x5 : Int32) (x6 : Int32) (x7 : Int32) (x8 : Int32), m_X12_rain_87 k78 n h x0 x1 x2 x3 x4 x5 x6 x7 x8 = some (r, h') → q_V Γ sz 0 0 h [(0, .ref x0), (1, .int x1), (2, .int x2), (3, .int x3), (4, .int x4), (5, .int x5), (6, .int x6), (7, .int x7), (8, .int x8)] [] 87 := by
  intro n
  induction n with
  | zero => intro h x0 x1 x2 x3 x4 x5 x6 x7 x8 hm; cases hm
  | succ n ih =>
    intro h x0 x1 x2 x3 x4 x5 x6 x7 x8 hm
    unfold m_X12_rain_87 at hm
    refine q_iload C (i := 8) 8 rfl (by decide +kernel) ?_
    refine q_iload_n C (k4 := 2) 2 rfl (by decide +kernel) ?_
    refine q_icmp_ge C (off := 55) 145 hm (by decide +kernel) (by decide) (fun _ hm => ?_) (fun _ hm => ?_)
    · refine q_iload C (i := 5) 5 rfl (by decide +kernel) ?_
      refine q_aload_n C (k4 := 0) 0 rfl (by decide +kernel) ?_
      refine q_getn C fl_12_39 hm (by decide +kernel) (fun v15 hm => ?_)
      refine q_bipush C (n := 11) (v := 11) (by decide) (by decide +kernel) ?_
      refine q_ir C hm (by decide +kernel) (fun v16 hm => ?_)
      refine q_aload_n C (k4 := 0) 0 rfl (by decide +kernel) ?_
      refine q_getn C fl_12_39 hm (by decide +kernel) (fun v17 hm => ?_)
      refine q_iconst C (n := 1) (v := 1) (by decide) (by decide +kernel) ?_
      refine q_ir C hm (by decide +kernel) (fun v18 hm => ?_)
      refine q_icmp_lt C (off := 7) 167 hm (by decide +kernel) (by decide) (fun _ hm => ?_) (fun _ hm => ?_)
      · refine q_iconst C (n := 0) (v := 0) (by decide) (by decide +kernel) ?_
        refine q_loc [0, 1, 2, 3, 4, 6, 7] rfl ?_
        exact v_X12_rain_168 C Rm K hk78 _ _ _ _ _ _ _ _ _ _ hm
      · refine q_iconst C (n := 1) (v := 1) (by decide) (by decide +kernel) ?_
        refine q_goto C (off := 4) 168 (by decide +kernel) (by decide) ?_
        refine q_loc [0, 1, 2, 3, 4, 6, 7] rfl ?_
        exact v_X12_rain_168 C Rm K hk78 _ _ _ _ _ _ _ _ _ _ hm
    · refine q_aload_n C (k4 := 0) 0 rfl (by decide +kernel) ?_
      refine q_bipush C (n := 100) (v := 100) (by decide) (by decide +kernel) ?_
      refine q_viS C Rm (As := [.int ((100 : Int32))]) (rest := []) Y_X12_draw Yv_X12_draw ml_X12_462 (by decide) (by decide) hm (fun r19 h20 e9 => c_X12_draw _ _ _ _ _ _ _ _ e9) rfl rfl (Nat.le_of_ble_eq_true rfl) (by decide +kernel) (fun r19 h20 hm z21 => ?_)
      refine q_iload_n C (k4 := 3) 3 rfl (by decide +kernel) ?_
      refine q_icmp_ge C (off := 35) 135 hm (by decide +kernel) (by decide) (fun _ hm => ?_) (fun _ hm => ?_)
      · exact v_X12_rain_135 C Rm K hk78 ih _ _ _ _ _ _ _ _ _ _ hm
      · refine q_aload_n C (k4 := 0) 0 rfl (by decide +kernel) ?_
        refine q_getn C fl_12_39 hm (by decide +kernel) (fun v22 hm => ?_)
        refine q_iconst C (n := 3) (v := 3) (by decide) (by decide +kernel) ?_
        refine q_ir C hm (by decide +kernel) (fun v23 hm => ?_)
        refine q_if_le C (off := 26) 135 hm (by decide +kernel) (by decide) (fun _ hm => ?_) (fun _ hm => ?_)
        · exact v_X12_rain_135 C Rm K hk78 ih _ _ _ _ _ _ _ _ _ _ hm
        · refine q_aload_n C (k4 := 0) 0 rfl (by decide +kernel) ?_
          refine q_getn C fl_12_39 hm (by decide +kernel) (fun v24 hm => ?_)
          refine q_bipush C (n := 12) (v := 12) (by decide) (by decide +kernel) ?_
          refine q_iconst C (n := 5) (v := 5) (by decide) (by decide +kernel) ?_
          refine q_aload_n C (k4 := 0) 0 rfl (by decide +kernel) ?_
          refine q_aload_n C (k4 := 0) 0 rfl (by decide +kernel) ?_
          refine q_getn C fl_12_39 hm (by decide +kernel) (fun v25 hm => ?_)
          refine q_iconst C (n := 3) (v := 3) (by decide) (by decide +kernel) ?_
          refine q_ir C hm (by decide +kernel) (fun v26 hm => ?_)
          refine q_viS C Rm (As := [.int v26]) (rest := [.int ((5 : Int32)), .int ((12 : Int32)), .ref v24]) Y_X12_draw Yv_X12_draw ml_X12_462 (by decide) (by decide) hm (fun r27 h28 e9 => c_X12_draw _ _ _ _ _ _ _ _ e9) rfl rfl (Nat.le_of_ble_eq_true rfl) (by decide +kernel) (fun r27 h28 hm z29 => ?_)
          refine q_imul C (by decide +kernel) ?_
          refine q_iadd C (by decide +kernel) ?_
          refine q_iconst C (n := 3) (v := 3) (by decide) (by decide +kernel) ?_
          refine q_iadd C (by decide +kernel) ?_
          refine q_iconst C (n := 0) (v := 0) (by decide) (by decide +kernel) ?_
          refine q_iw C hm (by decide +kernel) (fun h30 hm => ?_)
          exact v_X12_rain_135 C Rm K hk78 ih _ _ _ _ _ _ _ _ _ _ hm
def m_X12_rain_78  : Nat → q_H → Nat → Int32 → Int32 → Int32 → Int32 → Int32 → Int32 → Int32 → Option (Int32 × q_H)
  | 0, _, _, _, _, _, _, _, _, _ => none
  | n + 1, h, x0, x1, x2, x3, x4, x5, x6, x7 =>
    if x1 ≤ x7 then
      if x4 = 0 then
        some (x5, h)
      else
        some (x6, h)
    else
      m_X12_rain_87 (m_X12_rain_78 n) q_fu h x0 x1 x2 x3 x4 x5 x6 x7 ((0 : Int32))
set_option maxRecDepth 20000 in
set_option maxHeartbeats 1000000 in
theorem v_X12_rain_78 {Γ : q_G} {sz : Nat} {r : Int32} {h' : q_H} (C : q_C Γ cX12_rain RX12) (Rm : q_Rm Γ 9 6 144 0 0)  (K : narrow .int (.int r) = .int r → q_K Γ cX12_rain .ireturn sz h' 0 0 [.int r])  : ∀ (n : Nat) (h : q_H) (x0 : Nat) (x1 : Int32) (x2 : Int32) (x3 : Int32) (x4 : Int32) (x5 : Int32) (x6 : Int32) (x7 : Int32), m_X12_rain_78 n h x0 x1 x2 x3 x4 x5 x6 x7 = some (r, h') → q_V Γ sz 0 0 h [(0, .ref x0), (1, .int x1), (2, .int x2), (3, .int x3), (4, .int x4), (5, .int x5), (6, .int x6), (7, .int x7)] [] 78 := by
  intro n
  induction n with
  | zero => intro h x0 x1 x2 x3 x4 x5 x6 x7 hm; cases hm
  | succ n ih =>
    intro h x0 x1 x2 x3 x4 x5 x6 x7 hm
    unfold m_X12_rain_78 at hm
    refine q_iload C (i := 7) 7 rfl (by decide +kernel) ?_
    refine q_iload_n C (k4 := 1) 1 rfl (by decide +kernel) ?_
    refine q_icmp_ge C (off := 116) 197 hm (by decide +kernel) (by decide) (fun _ hm => ?_) (fun _ hm => ?_)
    · refine q_iload C (i := 4) 4 rfl (by decide +kernel) ?_
      refine q_if_ne C (off := 8) 207 hm (by decide +kernel) (by decide) (fun _ hm => ?_) (fun _ hm => ?_)
      · refine q_iload C (i := 6) 6 rfl (by decide +kernel) ?_
        exact q_riS hm K rfl (by decide +kernel)
      · refine q_iload C (i := 5) 5 rfl (by decide +kernel) ?_
        refine q_goto C (off := 5) 209 (by decide +kernel) (by decide) ?_
        exact q_riS hm K rfl (by decide +kernel)
    · refine q_iconst C (n := 0) (v := 0) (by decide) (by decide +kernel) ?_
      refine q_istore C Rm.1 (i := 8) (lv' := [(8, .int ((0 : Int32))), (0, .ref x0), (1, .int x1), (2, .int x2), (3, .int x3), (4, .int x4), (5, .int x5), (6, .int x6), (7, .int x7)]) rfl (by decide) (by decide +kernel) ?_
      refine q_loc [1, 2, 3, 4, 5, 6, 7, 8, 0] rfl ?_
      exact v_X12_rain_87 C Rm K ih _ _ _ _ _ _ _ _ _ _ _ hm
def m_X12_rain (h : q_H) (a0 : Nat) (a1 : Int32) (a2 : Int32) (a3 : Int32) (a4 : Int32) : Option (Int32 × q_H) :=
  (q_ca 12 h a0 (m_X12_isRope h a0)).bind fun r1 =>
  if r1 = 0 then
    some ((-1 : Int32), h)
  else
    (m_X12_in a1.toInt64 ((1 : Int64)) ((10 : Int64))).bind fun r3 =>
    if r3 = 0 then
      some ((-1 : Int32), h)
    else
      (m_X12_in a2.toInt64 ((1 : Int64)) ((60 : Int64))).bind fun r5 =>
      if r5 = 0 then
        some ((-1 : Int32), h)
      else
        (m_X12_in a3.toInt64 ((0 : Int64)) ((100 : Int64))).bind fun r7 =>
        if r7 = 0 then
          some ((-1 : Int32), h)
        else
          (m_X12_in a4.toInt64 ((0 : Int64)) ((1 : Int64))).bind fun r9 =>
          if r9 = 0 then
            some ((-1 : Int32), h)
          else
            (q_gi h a0 12 22).bind fun v11 =>
            (q_pf h a0 12 32 (.long v11.toInt64)).bind fun h12 =>
            (q_ca 12 h12 a0 (m_X12_keeps h12 a0)).bind fun h14 =>
            m_X12_rain_78 q_fu h14 a0 a1 a2 a3 a4 ((0 : Int32)) ((0 : Int32)) ((0 : Int32))
set_option maxRecDepth 20000 in
set_option maxHeartbeats 1000000 in
theorem c_X12_rain (l : Launch) (base : Nat) (D : va_G) (tc : Nat → ClassId) (sz : Nat) (h : q_H) (a0 : Nat) (a1 : Int32) (a2 : Int32) (a3 : Int32) (a4 : Int32) {r : Int32} {h' : q_H} (hm : m_X12_rain h a0 a1 a2 a3 a4 = some (r, h')) : q_M l yX12_rain cX12_rain 9 (some .int) 6 144 0 0 base D tc [.ref a0, .int a1, .int a2, .int a3, .int a4] sz h (some (.int r)) sz h' := by
  refine q_starti (by decide) (Nat.le_of_ble_eq_true rfl) (fun Γ B K => ?_)
  obtain ⟨C, Rm, -⟩ := B
  have C : q_C Γ cX12_rain RX12 := C
  show q_V Γ sz 0 0 h [(0, .ref a0), (1, .int a1), (2, .int a2), (3, .int a3), (4, .int a4)] [] 0
  unfold m_X12_rain at hm
  refine q_aload_n C (k4 := 0) 0 rfl (by decide +kernel) ?_
  refine q_viP C Rm (As := []) (rest := []) Y_X12_isRope Yv_X12_isRope ml_X12_299 (by decide) (by decide) hm (fun r9 e9 => c_X12_isRope _ _ _ _ _ _ _ e9) rfl rfl (Nat.le_of_ble_eq_true rfl) (by decide +kernel) (fun r1 hm z2 => ?_)
  refine q_if_eq C (off := 50) 54 hm (by decide +kernel) (by decide) (fun _ hm => ?_) (fun _ hm => ?_)
  · refine q_iconst C (n := (-1)) (v := (-1)) (by decide) (by decide +kernel) ?_
    exact q_riS hm K rfl (by decide +kernel)
  · refine q_iload_n C (k4 := 1) 1 rfl (by decide +kernel) ?_
    refine q_i2l C (by decide +kernel) ?_
    refine q_lconst C (n := 1) (v := 1) (by decide) (by decide +kernel) ?_
    refine q_ldc2 C (idx := 460) (v := 10) (q_m8 9 rfl rfl) (by decide +kernel) ?_
    refine q_siP C Rm (As := [.long a1.toInt64, .long ((1 : Int64)), .long ((10 : Int64))]) (rest := []) Y_X12_in Ys_X12_in ml_X12_121 (by decide) (by decide) hm (fun r9 e9 => c_X12_in _ _ _ _ _ _ _ _ _ e9) rfl rfl (Nat.le_of_ble_eq_true rfl) (by decide +kernel) (fun r3 hm z4 => ?_)
    refine q_if_eq C (off := 38) 54 hm (by decide +kernel) (by decide) (fun _ hm => ?_) (fun _ hm => ?_)
    · refine q_iconst C (n := (-1)) (v := (-1)) (by decide) (by decide +kernel) ?_
      exact q_riS hm K rfl (by decide +kernel)
    · refine q_iload_n C (k4 := 2) 2 rfl (by decide +kernel) ?_
      refine q_i2l C (by decide +kernel) ?_
      refine q_lconst C (n := 1) (v := 1) (by decide) (by decide +kernel) ?_
      refine q_ldc2 C (idx := 425) (v := 60) (q_m7 203 rfl rfl) (by decide +kernel) ?_
      refine q_siP C Rm (As := [.long a2.toInt64, .long ((1 : Int64)), .long ((60 : Int64))]) (rest := []) Y_X12_in Ys_X12_in ml_X12_121 (by decide) (by decide) hm (fun r9 e9 => c_X12_in _ _ _ _ _ _ _ _ _ e9) rfl rfl (Nat.le_of_ble_eq_true rfl) (by decide +kernel) (fun r5 hm z6 => ?_)
      refine q_if_eq C (off := 26) 54 hm (by decide +kernel) (by decide) (fun _ hm => ?_) (fun _ hm => ?_)
      · refine q_iconst C (n := (-1)) (v := (-1)) (by decide) (by decide +kernel) ?_
        exact q_riS hm K rfl (by decide +kernel)
      · refine q_iload_n C (k4 := 3) 3 rfl (by decide +kernel) ?_
        refine q_i2l C (by decide +kernel) ?_
        refine q_lconst C (n := 0) (v := 0) (by decide) (by decide +kernel) ?_
        refine q_ldc2 C (idx := 379) (v := 100) (q_m7 122 rfl rfl) (by decide +kernel) ?_
        refine q_siP C Rm (As := [.long a3.toInt64, .long ((0 : Int64)), .long ((100 : Int64))]) (rest := []) Y_X12_in Ys_X12_in ml_X12_121 (by decide) (by decide) hm (fun r9 e9 => c_X12_in _ _ _ _ _ _ _ _ _ e9) rfl rfl (Nat.le_of_ble_eq_true rfl) (by decide +kernel) (fun r7 hm z8 => ?_)
        refine q_if_eq C (off := 14) 54 hm (by decide +kernel) (by decide) (fun _ hm => ?_) (fun _ hm => ?_)
        · refine q_iconst C (n := (-1)) (v := (-1)) (by decide) (by decide +kernel) ?_
          exact q_riS hm K rfl (by decide +kernel)
        · refine q_iload C (i := 4) 4 rfl (by decide +kernel) ?_
          refine q_i2l C (by decide +kernel) ?_
          refine q_lconst C (n := 0) (v := 0) (by decide) (by decide +kernel) ?_
          refine q_lconst C (n := 1) (v := 1) (by decide) (by decide +kernel) ?_
          refine q_siP C Rm (As := [.long a4.toInt64, .long ((0 : Int64)), .long ((1 : Int64))]) (rest := []) Y_X12_in Ys_X12_in ml_X12_121 (by decide) (by decide) hm (fun r9 e9 => c_X12_in _ _ _ _ _ _ _ _ _ e9) rfl rfl (Nat.le_of_ble_eq_true rfl) (by decide +kernel) (fun r9 hm z10 => ?_)
          refine q_if_ne C (off := 5) 56 hm (by decide +kernel) (by decide) (fun _ hm => ?_) (fun _ hm => ?_)
          · refine q_aload_n C (k4 := 0) 0 rfl (by decide +kernel) ?_
            refine q_aload_n C (k4 := 0) 0 rfl (by decide +kernel) ?_
            refine q_geti C fl_12_445 hm (by decide +kernel) (fun v11 hm => ?_)
            refine q_i2l C (by decide +kernel) ?_
            refine q_putf C fl_12_448 hm rfl rfl (by decide +kernel) (fun h12 hm => ?_)
            refine q_iconst C (n := 0) (v := 0) (by decide) (by decide +kernel) ?_
            refine q_istore C Rm.1 (i := 5) (lv' := [(5, .int ((0 : Int32))), (0, .ref a0), (1, .int a1), (2, .int a2), (3, .int a3), (4, .int a4)]) rfl (by decide) (by decide +kernel) ?_
            refine q_iconst C (n := 0) (v := 0) (by decide) (by decide +kernel) ?_
            refine q_istore C Rm.1 (i := 6) (lv' := [(6, .int ((0 : Int32))), (5, .int ((0 : Int32))), (0, .ref a0), (1, .int a1), (2, .int a2), (3, .int a3), (4, .int a4)]) rfl (by decide) (by decide +kernel) ?_
            refine q_aload_n C (k4 := 0) 2 rfl (by decide +kernel) ?_
            refine q_vvS C Rm (As := []) (rest := []) Y_X12_keeps Yv_X12_keeps ml_X12_383 (by decide) (by decide) hm (fun h14 e9 => c_X12_keeps _ _ _ _ _ _ _ e9) rfl rfl (Nat.le_of_ble_eq_true rfl) (by decide +kernel) (fun h14 hm => ?_)
            refine q_iconst C (n := 0) (v := 0) (by decide) (by decide +kernel) ?_
            refine q_istore C Rm.1 (i := 7) (lv' := [(7, .int ((0 : Int32))), (6, .int ((0 : Int32))), (5, .int ((0 : Int32))), (0, .ref a0), (1, .int a1), (2, .int a2), (3, .int a3), (4, .int a4)]) rfl (by decide) (by decide +kernel) ?_
            refine q_loc [3, 4, 5, 6, 7, 2, 1, 0] rfl ?_
            exact v_X12_rain_78 C Rm K _ _ _ _ _ _ _ _ _ _ hm
          · refine q_iconst C (n := (-1)) (v := (-1)) (by decide) (by decide +kernel) ?_
            exact q_riS hm K rfl (by decide +kernel)
def m_X12_count (h0 : q_H) (a0 : Nat) (a1 : Int32) : Option Int32 :=
  if a1 = 0 then
    (q_gn h0 a0 12 20).bind fun v1 =>
    (q_ai h0 v1 1 ((a1 + (1 : Int32)))).bind fun v2 =>
    some v2
  else
  if a1 = 1 then
    (q_gn h0 a0 12 20).bind fun v3 =>
    (q_ai h0 v3 1 ((a1 + (1 : Int32)))).bind fun v4 =>
    some v4
  else
  if a1 = 2 then
    (q_gn h0 a0 12 20).bind fun v5 =>
    (q_ai h0 v5 1 ((a1 + (1 : Int32)))).bind fun v6 =>
    some v6
  else
  if a1 = 3 then
    (q_gi h0 a0 12 2).bind fun v7 =>
    some v7
  else
  if a1 = 4 then
    (q_gi h0 a0 12 21).bind fun v8 =>
    some v8
  else
  if a1 = 5 then
    (q_gn h0 a0 12 20).bind fun v9 =>
    (q_ai h0 v9 1 ((10 : Int32))).bind fun v10 =>
    some v10
  else
  if a1 = 6 then
    (q_ca 12 h0 a0 (m_X12_onesOn h0 a0 ((0 : Int32)))).bind fun r11 =>
    some r11
  else
  if a1 = 7 then
    (q_ca 12 h0 a0 (m_X12_upOnes h0 a0)).bind fun r13 =>
    some r13
  else
  if a1 = 8 then
    (q_ca 12 h0 a0 (m_X12_isRope h0 a0)).bind fun r15 =>
    if r15 = 0 then
      some ((0 : Int32))
    else
      (q_ca 12 h0 a0 (m_X12_isOver h0 a0)).bind fun r17 =>
      if r17 = 0 then
        some ((0 : Int32))
      else
        some ((1 : Int32))
  else
  if a1 = 9 then
    (q_ca 12 h0 a0 (m_X12_workAll h0 a0)).bind fun r19 =>
    some r19
  else
  if a1 = 10 then
    (q_gn h0 a0 12 20).bind fun v21 =>
    (q_ai h0 v21 1 ((105 : Int32))).bind fun v22 =>
    some v22
  else
  if a1 = 11 then
    (q_gi h0 a0 12 26).bind fun v23 =>
    some v23
  else
  if a1 = 12 then
    (q_gi h0 a0 12 22).bind fun v24 =>
    some v24
  else
  if a1 = 13 then
    (q_gi h0 a0 12 1).bind fun v25 =>
    some v25
  else
  some ((-1 : Int32))
set_option maxRecDepth 20000 in
set_option maxHeartbeats 1000000 in
theorem c_X12_count (l : Launch) (base : Nat) (D : va_G) (tc : Nat → ClassId) (sz : Nat) (h0 : q_H) (a0 : Nat) (a1 : Int32) {r : Int32} (hm : m_X12_count h0 a0 a1 = some r) : q_M l yX12_count cX12_count 2 (some .int) 3 64 0 0 base D tc [.ref a0, .int a1] sz h0 (some (.int r)) sz h0 := by
  refine q_starti (by decide) (Nat.le_of_ble_eq_true rfl) (fun Γ B K => ?_)
  obtain ⟨C, Rm, -⟩ := B
  have C : q_C Γ cX12_count RX12 := C
  show q_V Γ sz 0 0 h0 [(0, .ref a0), (1, .int a1)] [] 0
  unfold m_X12_count at hm
  refine q_iload_n C (k4 := 1) 1 rfl (by decide +kernel) ?_
  by_cases c1_0 : a1 = 0
  · rw [if_pos c1_0] at hm
    refine q_tsIn C (dflt := 157) (lo := 0) (hi := 13) (offs := #[71, 71, 71, 80, 85, 90, 98, 104, 109, 129, 134, 142, 147, 152]) (len := 71) (71) 72 (by decide +kernel) (by rw [c1_0]; decide) (by rw [c1_0]; decide) (by rw [c1_0]; decide) (by decide) ?_
    refine q_aload_n C (k4 := 0) 0 rfl (by decide +kernel) ?_
    refine q_getn C fl_12_39 hm (by decide +kernel) (fun v1 hm => ?_)
    refine q_iload_n C (k4 := 1) 1 rfl (by decide +kernel) ?_
    refine q_iconst C (n := 1) (v := 1) (by decide) (by decide +kernel) ?_
    refine q_iadd C (by decide +kernel) ?_
    refine q_ir C hm (by decide +kernel) (fun v2 hm => ?_)
    exact q_riP hm K rfl (by decide +kernel)
  rw [if_neg c1_0] at hm
  by_cases c1_1 : a1 = 1
  · rw [if_pos c1_1] at hm
    refine q_tsIn C (dflt := 157) (lo := 0) (hi := 13) (offs := #[71, 71, 71, 80, 85, 90, 98, 104, 109, 129, 134, 142, 147, 152]) (len := 71) (71) 72 (by decide +kernel) (by rw [c1_1]; decide) (by rw [c1_1]; decide) (by rw [c1_1]; decide) (by decide) ?_
    refine q_aload_n C (k4 := 0) 0 rfl (by decide +kernel) ?_
    refine q_getn C fl_12_39 hm (by decide +kernel) (fun v3 hm => ?_)
    refine q_iload_n C (k4 := 1) 1 rfl (by decide +kernel) ?_
    refine q_iconst C (n := 1) (v := 1) (by decide) (by decide +kernel) ?_
    refine q_iadd C (by decide +kernel) ?_
    refine q_ir C hm (by decide +kernel) (fun v4 hm => ?_)
    exact q_riP hm K rfl (by decide +kernel)
  rw [if_neg c1_1] at hm
  by_cases c1_2 : a1 = 2
  · rw [if_pos c1_2] at hm
    refine q_tsIn C (dflt := 157) (lo := 0) (hi := 13) (offs := #[71, 71, 71, 80, 85, 90, 98, 104, 109, 129, 134, 142, 147, 152]) (len := 71) (71) 72 (by decide +kernel) (by rw [c1_2]; decide) (by rw [c1_2]; decide) (by rw [c1_2]; decide) (by decide) ?_
    refine q_aload_n C (k4 := 0) 0 rfl (by decide +kernel) ?_
    refine q_getn C fl_12_39 hm (by decide +kernel) (fun v5 hm => ?_)
    refine q_iload_n C (k4 := 1) 1 rfl (by decide +kernel) ?_
    refine q_iconst C (n := 1) (v := 1) (by decide) (by decide +kernel) ?_
    refine q_iadd C (by decide +kernel) ?_
    refine q_ir C hm (by decide +kernel) (fun v6 hm => ?_)
    exact q_riP hm K rfl (by decide +kernel)
  rw [if_neg c1_2] at hm
  by_cases c1_3 : a1 = 3
  · rw [if_pos c1_3] at hm
    refine q_tsIn C (dflt := 157) (lo := 0) (hi := 13) (offs := #[71, 71, 71, 80, 85, 90, 98, 104, 109, 129, 134, 142, 147, 152]) (len := 71) (80) 81 (by decide +kernel) (by rw [c1_3]; decide) (by rw [c1_3]; decide) (by rw [c1_3]; decide) (by decide) ?_
    refine q_aload_n C (k4 := 0) 0 rfl (by decide +kernel) ?_
    refine q_geti C fl_12_251 hm (by decide +kernel) (fun v7 hm => ?_)
    exact q_riP hm K rfl (by decide +kernel)
  rw [if_neg c1_3] at hm
  by_cases c1_4 : a1 = 4
  · rw [if_pos c1_4] at hm
    refine q_tsIn C (dflt := 157) (lo := 0) (hi := 13) (offs := #[71, 71, 71, 80, 85, 90, 98, 104, 109, 129, 134, 142, 147, 152]) (len := 71) (85) 86 (by decide +kernel) (by rw [c1_4]; decide) (by rw [c1_4]; decide) (by rw [c1_4]; decide) (by decide) ?_
    refine q_aload_n C (k4 := 0) 0 rfl (by decide +kernel) ?_
    refine q_geti C fl_12_42 hm (by decide +kernel) (fun v8 hm => ?_)
    exact q_riP hm K rfl (by decide +kernel)
  rw [if_neg c1_4] at hm
  by_cases c1_5 : a1 = 5
  · rw [if_pos c1_5] at hm
    refine q_tsIn C (dflt := 157) (lo := 0) (hi := 13) (offs := #[71, 71, 71, 80, 85, 90, 98, 104, 109, 129, 134, 142, 147, 152]) (len := 71) (90) 91 (by decide +kernel) (by rw [c1_5]; decide) (by rw [c1_5]; decide) (by rw [c1_5]; decide) (by decide) ?_
    refine q_aload_n C (k4 := 0) 0 rfl (by decide +kernel) ?_
    refine q_getn C fl_12_39 hm (by decide +kernel) (fun v9 hm => ?_)
    refine q_bipush C (n := 10) (v := 10) (by decide) (by decide +kernel) ?_
    refine q_ir C hm (by decide +kernel) (fun v10 hm => ?_)
    exact q_riP hm K rfl (by decide +kernel)
  rw [if_neg c1_5] at hm
  by_cases c1_6 : a1 = 6
  · rw [if_pos c1_6] at hm
    refine q_tsIn C (dflt := 157) (lo := 0) (hi := 13) (offs := #[71, 71, 71, 80, 85, 90, 98, 104, 109, 129, 134, 142, 147, 152]) (len := 71) (98) 99 (by decide +kernel) (by rw [c1_6]; decide) (by rw [c1_6]; decide) (by rw [c1_6]; decide) (by decide) ?_
    refine q_aload_n C (k4 := 0) 0 rfl (by decide +kernel) ?_
    refine q_iconst C (n := 0) (v := 0) (by decide) (by decide +kernel) ?_
    refine q_viP C Rm (As := [.int ((0 : Int32))]) (rest := []) Y_X12_onesOn Yv_X12_onesOn ml_X12_309 (by decide) (by decide) hm (fun r9 e9 => c_X12_onesOn _ _ _ _ _ _ _ _ e9) rfl rfl (Nat.le_of_ble_eq_true rfl) (by decide +kernel) (fun r11 hm z12 => ?_)
    exact q_riP hm K rfl (by decide +kernel)
  rw [if_neg c1_6] at hm
  by_cases c1_7 : a1 = 7
  · rw [if_pos c1_7] at hm
    refine q_tsIn C (dflt := 157) (lo := 0) (hi := 13) (offs := #[71, 71, 71, 80, 85, 90, 98, 104, 109, 129, 134, 142, 147, 152]) (len := 71) (104) 105 (by decide +kernel) (by rw [c1_7]; decide) (by rw [c1_7]; decide) (by rw [c1_7]; decide) (by decide) ?_
    refine q_aload_n C (k4 := 0) 0 rfl (by decide +kernel) ?_
    refine q_viP C Rm (As := []) (rest := []) Y_X12_upOnes Yv_X12_upOnes ml_X12_306 (by decide) (by decide) hm (fun r9 e9 => c_X12_upOnes _ _ _ _ _ _ _ e9) rfl rfl (Nat.le_of_ble_eq_true rfl) (by decide +kernel) (fun r13 hm z14 => ?_)
    exact q_riP hm K rfl (by decide +kernel)
  rw [if_neg c1_7] at hm
  by_cases c1_8 : a1 = 8
  · rw [if_pos c1_8] at hm
    refine q_tsIn C (dflt := 157) (lo := 0) (hi := 13) (offs := #[71, 71, 71, 80, 85, 90, 98, 104, 109, 129, 134, 142, 147, 152]) (len := 71) (109) 110 (by decide +kernel) (by rw [c1_8]; decide) (by rw [c1_8]; decide) (by rw [c1_8]; decide) (by decide) ?_
    refine q_aload_n C (k4 := 0) 0 rfl (by decide +kernel) ?_
    refine q_viP C Rm (As := []) (rest := []) Y_X12_isRope Yv_X12_isRope ml_X12_299 (by decide) (by decide) hm (fun r9 e9 => c_X12_isRope _ _ _ _ _ _ _ e9) rfl rfl (Nat.le_of_ble_eq_true rfl) (by decide +kernel) (fun r15 hm z16 => ?_)
    refine q_if_eq C (off := 14) 128 hm (by decide +kernel) (by decide) (fun _ hm => ?_) (fun _ hm => ?_)
    · refine q_iconst C (n := 0) (v := 0) (by decide) (by decide +kernel) ?_
      exact q_riP hm K rfl (by decide +kernel)
    · refine q_aload_n C (k4 := 0) 0 rfl (by decide +kernel) ?_
      refine q_viP C Rm (As := []) (rest := []) Y_X12_isOver Yv_X12_isOver ml_X12_335 (by decide) (by decide) hm (fun r9 e9 => c_X12_isOver _ _ _ _ _ _ _ e9) rfl rfl (Nat.le_of_ble_eq_true rfl) (by decide +kernel) (fun r17 hm z18 => ?_)
      refine q_if_eq C (off := 7) 128 hm (by decide +kernel) (by decide) (fun _ hm => ?_) (fun _ hm => ?_)
      · refine q_iconst C (n := 0) (v := 0) (by decide) (by decide +kernel) ?_
        exact q_riP hm K rfl (by decide +kernel)
      · refine q_iconst C (n := 1) (v := 1) (by decide) (by decide +kernel) ?_
        refine q_goto C (off := 4) 129 (by decide +kernel) (by decide) ?_
        exact q_riP hm K rfl (by decide +kernel)
  rw [if_neg c1_8] at hm
  by_cases c1_9 : a1 = 9
  · rw [if_pos c1_9] at hm
    refine q_tsIn C (dflt := 157) (lo := 0) (hi := 13) (offs := #[71, 71, 71, 80, 85, 90, 98, 104, 109, 129, 134, 142, 147, 152]) (len := 71) (129) 130 (by decide +kernel) (by rw [c1_9]; decide) (by rw [c1_9]; decide) (by rw [c1_9]; decide) (by decide) ?_
    refine q_aload_n C (k4 := 0) 0 rfl (by decide +kernel) ?_
    refine q_viP C Rm (As := []) (rest := []) Y_X12_workAll Yv_X12_workAll ml_X12_422 (by decide) (by decide) hm (fun r9 e9 => c_X12_workAll _ _ _ _ _ _ _ e9) rfl rfl (Nat.le_of_ble_eq_true rfl) (by decide +kernel) (fun r19 hm z20 => ?_)
    exact q_riP hm K rfl (by decide +kernel)
  rw [if_neg c1_9] at hm
  by_cases c1_10 : a1 = 10
  · rw [if_pos c1_10] at hm
    refine q_tsIn C (dflt := 157) (lo := 0) (hi := 13) (offs := #[71, 71, 71, 80, 85, 90, 98, 104, 109, 129, 134, 142, 147, 152]) (len := 71) (134) 135 (by decide +kernel) (by rw [c1_10]; decide) (by rw [c1_10]; decide) (by rw [c1_10]; decide) (by decide) ?_
    refine q_aload_n C (k4 := 0) 0 rfl (by decide +kernel) ?_
    refine q_getn C fl_12_39 hm (by decide +kernel) (fun v21 hm => ?_)
    refine q_bipush C (n := 105) (v := 105) (by decide) (by decide +kernel) ?_
    refine q_ir C hm (by decide +kernel) (fun v22 hm => ?_)
    exact q_riP hm K rfl (by decide +kernel)
  rw [if_neg c1_10] at hm
  by_cases c1_11 : a1 = 11
  · rw [if_pos c1_11] at hm
    refine q_tsIn C (dflt := 157) (lo := 0) (hi := 13) (offs := #[71, 71, 71, 80, 85, 90, 98, 104, 109, 129, 134, 142, 147, 152]) (len := 71) (142) 143 (by decide +kernel) (by rw [c1_11]; decide) (by rw [c1_11]; decide) (by rw [c1_11]; decide) (by decide) ?_
    refine q_aload_n C (k4 := 0) 0 rfl (by decide +kernel) ?_
    refine q_geti C fl_12_260 hm (by decide +kernel) (fun v23 hm => ?_)
    exact q_riP hm K rfl (by decide +kernel)
  rw [if_neg c1_11] at hm
  by_cases c1_12 : a1 = 12
  · rw [if_pos c1_12] at hm
    refine q_tsIn C (dflt := 157) (lo := 0) (hi := 13) (offs := #[71, 71, 71, 80, 85, 90, 98, 104, 109, 129, 134, 142, 147, 152]) (len := 71) (147) 148 (by decide +kernel) (by rw [c1_12]; decide) (by rw [c1_12]; decide) (by rw [c1_12]; decide) (by decide) ?_
    refine q_aload_n C (k4 := 0) 0 rfl (by decide +kernel) ?_
    refine q_geti C fl_12_445 hm (by decide +kernel) (fun v24 hm => ?_)
    exact q_riP hm K rfl (by decide +kernel)
  rw [if_neg c1_12] at hm
  by_cases c1_13 : a1 = 13
  · rw [if_pos c1_13] at hm
    refine q_tsIn C (dflt := 157) (lo := 0) (hi := 13) (offs := #[71, 71, 71, 80, 85, 90, 98, 104, 109, 129, 134, 142, 147, 152]) (len := 71) (152) 153 (by decide +kernel) (by rw [c1_13]; decide) (by rw [c1_13]; decide) (by rw [c1_13]; decide) (by decide) ?_
    refine q_aload_n C (k4 := 0) 0 rfl (by decide +kernel) ?_
    refine q_geti C fl_12_83 hm (by decide +kernel) (fun v25 hm => ?_)
    exact q_riP hm K rfl (by decide +kernel)
  rw [if_neg c1_13] at hm
  have nc1_0 := lv_neT c1_0 (show (0 : Int32).toInt = 0 from by decide)
  have nc1_1 := lv_neT c1_1 (show (1 : Int32).toInt = 1 from by decide)
  have nc1_2 := lv_neT c1_2 (show (2 : Int32).toInt = 2 from by decide)
  have nc1_3 := lv_neT c1_3 (show (3 : Int32).toInt = 3 from by decide)
  have nc1_4 := lv_neT c1_4 (show (4 : Int32).toInt = 4 from by decide)
  have nc1_5 := lv_neT c1_5 (show (5 : Int32).toInt = 5 from by decide)
  have nc1_6 := lv_neT c1_6 (show (6 : Int32).toInt = 6 from by decide)
  have nc1_7 := lv_neT c1_7 (show (7 : Int32).toInt = 7 from by decide)
  have nc1_8 := lv_neT c1_8 (show (8 : Int32).toInt = 8 from by decide)
  have nc1_9 := lv_neT c1_9 (show (9 : Int32).toInt = 9 from by decide)
  have nc1_10 := lv_neT c1_10 (show (10 : Int32).toInt = 10 from by decide)
  have nc1_11 := lv_neT c1_11 (show (11 : Int32).toInt = 11 from by decide)
  have nc1_12 := lv_neT c1_12 (show (12 : Int32).toInt = 12 from by decide)
  have nc1_13 := lv_neT c1_13 (show (13 : Int32).toInt = 13 from by decide)
  refine q_tsOut C (dflt := 157) (lo := 0) (hi := 13) (offs := #[71, 71, 71, 80, 85, 90, 98, 104, 109, 129, 134, 142, 147, 152]) (len := 71) 158 (by decide +kernel) (by omega) (by decide) ?_
  refine q_iconst C (n := (-1)) (v := (-1)) (by decide) (by decide +kernel) ?_
  exact q_riP hm K rfl (by decide +kernel)
def m_X12_image_43  : Nat → q_H → Nat → Int32 → Int32 → Option (Int32 × q_H)
  | 0, _, _, _, _ => none
  | n + 1, h, x0, x1, x2 =>
    if (106 : Int32) ≤ x2 then
      (q_gn h x0 12 20).bind fun v11 =>
      (q_ai h v11 1 ((10 : Int32))).bind fun v12 =>
      some (v12, h)
    else
      (q_gn h x0 12 33).bind fun v13 =>
      (q_gn h x0 12 20).bind fun v14 =>
      (q_ai h v14 1 x2).bind fun v15 =>
      (q_si h v13 1 ((((106 : Int32) * x1) + x2)) v15).bind fun h16 =>
      m_X12_image_43 n h16 x0 x1 ((x2 + (1 : Int32)))
set_option maxRecDepth 20000 in
set_option maxHeartbeats 1000000 in
theorem v_X12_image_43 {Γ : q_G} {sz : Nat} {r : Int32} {h' : q_H} (C : q_C Γ cX12_image RX12) (Rm : q_Rm Γ 3 1 25 0 0)  (K : narrow .int (.int r) = .int r → q_K Γ cX12_image .ireturn sz h' 0 0 [.int r])  : ∀ (n : Nat) (h : q_H) (x0 : Nat) (x1 : Int32) (x2 : Int32), m_X12_image_43 n h x0 x1 x2 = some (r, h') → q_V Γ sz 0 0 h [(0, .ref x0), (1, .int x1), (2, .int x2)] [] 43 := by
  intro n
  induction n with
  | zero => intro h x0 x1 x2 hm; cases hm
  | succ n ih =>
    intro h x0 x1 x2 hm
    unfold m_X12_image_43 at hm
    refine q_iload_n C (k4 := 2) 2 rfl (by decide +kernel) ?_
    refine q_bipush C (n := 106) (v := 106) (by decide) (by decide +kernel) ?_
    refine q_icmp_ge C (off := 26) 72 hm (by decide +kernel) (by decide) (fun _ hm => ?_) (fun _ hm => ?_)
    · refine q_aload_n C (k4 := 0) 0 rfl (by decide +kernel) ?_
      refine q_getn C fl_12_39 hm (by decide +kernel) (fun v11 hm => ?_)
      refine q_bipush C (n := 10) (v := 10) (by decide) (by decide +kernel) ?_
      refine q_ir C hm (by decide +kernel) (fun v12 hm => ?_)
      exact q_riS hm K rfl (by decide +kernel)
    · refine q_aload_n C (k4 := 0) 0 rfl (by decide +kernel) ?_
      refine q_getn C fl_12_71 hm (by decide +kernel) (fun v13 hm => ?_)
      refine q_bipush C (n := 106) (v := 106) (by decide) (by decide +kernel) ?_
      refine q_iload_n C (k4 := 1) 1 rfl (by decide +kernel) ?_
      refine q_imul C (by decide +kernel) ?_
      refine q_iload_n C (k4 := 2) 2 rfl (by decide +kernel) ?_
      refine q_iadd C (by decide +kernel) ?_
      refine q_aload_n C (k4 := 0) 0 rfl (by decide +kernel) ?_
      refine q_getn C fl_12_39 hm (by decide +kernel) (fun v14 hm => ?_)
      refine q_iload_n C (k4 := 2) 2 rfl (by decide +kernel) ?_
      refine q_ir C hm (by decide +kernel) (fun v15 hm => ?_)
      refine q_iw C hm (by decide +kernel) (fun h16 hm => ?_)
      refine q_iinc C Rm.1 (i := 2) (n := 1) (v := (x2 + (1 : Int32))) 2 rfl (q_inc _ (by decide)) (lv' := [(2, .int ((x2 + (1 : Int32)))), (0, .ref x0), (1, .int x1)]) rfl (by decide) (by decide +kernel) ?_
      refine q_goto C (off := -26) 43 (by decide +kernel) (by decide) ?_
      refine q_loc [1, 2, 0] rfl ?_
      exact ih _ _ _ _ hm
def m_X12_image (h : q_H) (a0 : Nat) (a1 : Int32) : Option (Int32 × q_H) :=
  (m_X12_in a1.toInt64 ((0 : Int64)) ((3 : Int64))).bind fun r1 =>
  if r1 = 0 then
    some ((-1 : Int32), h)
  else
    (q_gn h a0 12 36).bind fun v3 =>
    (q_si h v3 3 a1 (vp_nar .boolean ((1 : Int32)))).bind fun h4 =>
    (q_gn h4 a0 12 34).bind fun v5 =>
    (q_gi h4 a0 12 21).bind fun v6 =>
    (q_si h4 v5 1 a1 v6).bind fun h7 =>
    (q_gn h7 a0 12 35).bind fun v8 =>
    (q_gi h7 a0 12 22).bind fun v9 =>
    (q_si h7 v8 1 a1 v9).bind fun h10 =>
    m_X12_image_43 q_fu h10 a0 a1 ((0 : Int32))
set_option maxRecDepth 20000 in
set_option maxHeartbeats 1000000 in
theorem c_X12_image (l : Launch) (base : Nat) (D : va_G) (tc : Nat → ClassId) (sz : Nat) (h : q_H) (a0 : Nat) (a1 : Int32) {r : Int32} {h' : q_H} (hm : m_X12_image h a0 a1 = some (r, h')) : q_M l yX12_image cX12_image 3 (some .int) 1 25 0 0 base D tc [.ref a0, .int a1] sz h (some (.int r)) sz h' := by
  refine q_starti (by decide) (Nat.le_of_ble_eq_true rfl) (fun Γ B K => ?_)
  obtain ⟨C, Rm, -⟩ := B
  have C : q_C Γ cX12_image RX12 := C
  show q_V Γ sz 0 0 h [(0, .ref a0), (1, .int a1)] [] 0
  unfold m_X12_image at hm
  refine q_iload_n C (k4 := 1) 1 rfl (by decide +kernel) ?_
  refine q_i2l C (by decide +kernel) ?_
  refine q_lconst C (n := 0) (v := 0) (by decide) (by decide +kernel) ?_
  refine q_ldc2 C (idx := 325) (v := 3) (q_m7 38 rfl rfl) (by decide +kernel) ?_
  refine q_siP C Rm (As := [.long a1.toInt64, .long ((0 : Int64)), .long ((3 : Int64))]) (rest := []) Y_X12_in Ys_X12_in ml_X12_121 (by decide) (by decide) hm (fun r9 e9 => c_X12_in _ _ _ _ _ _ _ _ _ e9) rfl rfl (Nat.le_of_ble_eq_true rfl) (by decide +kernel) (fun r1 hm z2 => ?_)
  refine q_if_ne C (off := 5) 14 hm (by decide +kernel) (by decide) (fun _ hm => ?_) (fun _ hm => ?_)
  · refine q_aload_n C (k4 := 0) 0 rfl (by decide +kernel) ?_
    refine q_getn C fl_12_80 hm (by decide +kernel) (fun v3 hm => ?_)
    refine q_iload_n C (k4 := 1) 1 rfl (by decide +kernel) ?_
    refine q_iconst C (n := 1) (v := 1) (by decide) (by decide +kernel) ?_
    refine q_zw C hm (by decide +kernel) (fun h4 hm => ?_)
    refine q_aload_n C (k4 := 0) 0 rfl (by decide +kernel) ?_
    refine q_getn C fl_12_74 hm (by decide +kernel) (fun v5 hm => ?_)
    refine q_iload_n C (k4 := 1) 1 rfl (by decide +kernel) ?_
    refine q_aload_n C (k4 := 0) 0 rfl (by decide +kernel) ?_
    refine q_geti C fl_12_42 hm (by decide +kernel) (fun v6 hm => ?_)
    refine q_iw C hm (by decide +kernel) (fun h7 hm => ?_)
    refine q_aload_n C (k4 := 0) 0 rfl (by decide +kernel) ?_
    refine q_getn C fl_12_77 hm (by decide +kernel) (fun v8 hm => ?_)
    refine q_iload_n C (k4 := 1) 1 rfl (by decide +kernel) ?_
    refine q_aload_n C (k4 := 0) 0 rfl (by decide +kernel) ?_
    refine q_geti C fl_12_445 hm (by decide +kernel) (fun v9 hm => ?_)
    refine q_iw C hm (by decide +kernel) (fun h10 hm => ?_)
    refine q_iconst C (n := 0) (v := 0) (by decide) (by decide +kernel) ?_
    refine q_istore_n C Rm.1 (k4 := 2) (i := 2) rfl (lv' := [(2, .int ((0 : Int32))), (0, .ref a0), (1, .int a1)]) rfl (by decide) (by decide +kernel) ?_
    refine q_loc [1, 2, 0] rfl ?_
    exact v_X12_image_43 C Rm K _ _ _ _ _ hm
  · refine q_iconst C (n := (-1)) (v := (-1)) (by decide) (by decide +kernel) ?_
    exact q_riS hm K rfl (by decide +kernel)
def m_X12_back_50  : Nat → q_H → Nat → Int32 → Int32 → Option (Int32 × q_H)
  | 0, _, _, _, _ => none
  | n + 1, h, x0, x1, x2 =>
    if (106 : Int32) ≤ x2 then
      (q_gn h x0 12 20).bind fun v12 =>
      (q_ai h v12 1 ((10 : Int32))).bind fun v13 =>
      some (v13, h)
    else
      (q_gn h x0 12 20).bind fun v14 =>
      (q_gn h x0 12 33).bind fun v15 =>
      (q_ai h v15 1 ((((106 : Int32) * x1) + x2))).bind fun v16 =>
      (q_si h v14 1 x2 v16).bind fun h17 =>
      m_X12_back_50 n h17 x0 x1 ((x2 + (1 : Int32)))
set_option maxRecDepth 20000 in
set_option maxHeartbeats 1000000 in
theorem v_X12_back_50 {Γ : q_G} {sz : Nat} {r : Int32} {h' : q_H} (C : q_C Γ cX12_back RX12) (Rm : q_Rm Γ 3 1 25 0 0)  (K : narrow .int (.int r) = .int r → q_K Γ cX12_back .ireturn sz h' 0 0 [.int r])  : ∀ (n : Nat) (h : q_H) (x0 : Nat) (x1 : Int32) (x2 : Int32), m_X12_back_50 n h x0 x1 x2 = some (r, h') → q_V Γ sz 0 0 h [(0, .ref x0), (1, .int x1), (2, .int x2)] [] 50 := by
  intro n
  induction n with
  | zero => intro h x0 x1 x2 hm; cases hm
  | succ n ih =>
    intro h x0 x1 x2 hm
    unfold m_X12_back_50 at hm
    refine q_iload_n C (k4 := 2) 2 rfl (by decide +kernel) ?_
    refine q_bipush C (n := 106) (v := 106) (by decide) (by decide +kernel) ?_
    refine q_icmp_ge C (off := 26) 79 hm (by decide +kernel) (by decide) (fun _ hm => ?_) (fun _ hm => ?_)
    · refine q_aload_n C (k4 := 0) 0 rfl (by decide +kernel) ?_
      refine q_getn C fl_12_39 hm (by decide +kernel) (fun v12 hm => ?_)
      refine q_bipush C (n := 10) (v := 10) (by decide) (by decide +kernel) ?_
      refine q_ir C hm (by decide +kernel) (fun v13 hm => ?_)
      exact q_riS hm K rfl (by decide +kernel)
    · refine q_aload_n C (k4 := 0) 0 rfl (by decide +kernel) ?_
      refine q_getn C fl_12_39 hm (by decide +kernel) (fun v14 hm => ?_)
      refine q_iload_n C (k4 := 2) 2 rfl (by decide +kernel) ?_
      refine q_aload_n C (k4 := 0) 0 rfl (by decide +kernel) ?_
      refine q_getn C fl_12_71 hm (by decide +kernel) (fun v15 hm => ?_)
      refine q_bipush C (n := 106) (v := 106) (by decide) (by decide +kernel) ?_
      refine q_iload_n C (k4 := 1) 1 rfl (by decide +kernel) ?_
      refine q_imul C (by decide +kernel) ?_
      refine q_iload_n C (k4 := 2) 2 rfl (by decide +kernel) ?_
      refine q_iadd C (by decide +kernel) ?_
      refine q_ir C hm (by decide +kernel) (fun v16 hm => ?_)
      refine q_iw C hm (by decide +kernel) (fun h17 hm => ?_)
      refine q_iinc C Rm.1 (i := 2) (n := 1) (v := (x2 + (1 : Int32))) 2 rfl (q_inc _ (by decide)) (lv' := [(2, .int ((x2 + (1 : Int32)))), (0, .ref x0), (1, .int x1)]) rfl (by decide) (by decide +kernel) ?_
      refine q_goto C (off := -26) 50 (by decide +kernel) (by decide) ?_
      refine q_loc [1, 2, 0] rfl ?_
      exact ih _ _ _ _ hm
def m_X12_back (h : q_H) (a0 : Nat) (a1 : Int32) : Option (Int32 × q_H) :=
  (m_X12_in a1.toInt64 ((0 : Int64)) ((3 : Int64))).bind fun r1 =>
  if r1 = 0 then
    some ((-1 : Int32), h)
  else
    (q_gn h a0 12 36).bind fun v3 =>
    (q_ai h v3 3 a1).bind fun v4 =>
    if v4 = 0 then
      some ((-1 : Int32), h)
    else
      (q_gn h a0 12 34).bind fun v5 =>
      (q_ai h v5 1 a1).bind fun v6 =>
      (q_pf h a0 12 21 (.int v6)).bind fun h7 =>
      (q_gn h7 a0 12 35).bind fun v8 =>
      (q_ai h7 v8 1 a1).bind fun v9 =>
      (q_pf h7 a0 12 22 (.int v9)).bind fun h10 =>
      (q_pf h10 a0 12 26 (.int ((0 : Int32)))).bind fun h11 =>
      m_X12_back_50 q_fu h11 a0 a1 ((0 : Int32))
set_option maxRecDepth 20000 in
set_option maxHeartbeats 1000000 in
theorem c_X12_back (l : Launch) (base : Nat) (D : va_G) (tc : Nat → ClassId) (sz : Nat) (h : q_H) (a0 : Nat) (a1 : Int32) {r : Int32} {h' : q_H} (hm : m_X12_back h a0 a1 = some (r, h')) : q_M l yX12_back cX12_back 3 (some .int) 1 25 0 0 base D tc [.ref a0, .int a1] sz h (some (.int r)) sz h' := by
  refine q_starti (by decide) (Nat.le_of_ble_eq_true rfl) (fun Γ B K => ?_)
  obtain ⟨C, Rm, -⟩ := B
  have C : q_C Γ cX12_back RX12 := C
  show q_V Γ sz 0 0 h [(0, .ref a0), (1, .int a1)] [] 0
  unfold m_X12_back at hm
  refine q_iload_n C (k4 := 1) 1 rfl (by decide +kernel) ?_
  refine q_i2l C (by decide +kernel) ?_
  refine q_lconst C (n := 0) (v := 0) (by decide) (by decide +kernel) ?_
  refine q_ldc2 C (idx := 325) (v := 3) (q_m7 38 rfl rfl) (by decide +kernel) ?_
  refine q_siP C Rm (As := [.long a1.toInt64, .long ((0 : Int64)), .long ((3 : Int64))]) (rest := []) Y_X12_in Ys_X12_in ml_X12_121 (by decide) (by decide) hm (fun r9 e9 => c_X12_in _ _ _ _ _ _ _ _ _ e9) rfl rfl (Nat.le_of_ble_eq_true rfl) (by decide +kernel) (fun r1 hm z2 => ?_)
  refine q_if_eq C (off := 12) 21 hm (by decide +kernel) (by decide) (fun _ hm => ?_) (fun _ hm => ?_)
  · refine q_iconst C (n := (-1)) (v := (-1)) (by decide) (by decide +kernel) ?_
    exact q_riS hm K rfl (by decide +kernel)
  · refine q_aload_n C (k4 := 0) 0 rfl (by decide +kernel) ?_
    refine q_getn C fl_12_80 hm (by decide +kernel) (fun v3 hm => ?_)
    refine q_iload_n C (k4 := 1) 1 rfl (by decide +kernel) ?_
    refine q_zr C hm (by decide +kernel) (fun v4 hm => ?_)
    refine q_if_ne C (off := 5) 23 hm (by decide +kernel) (by decide) (fun _ hm => ?_) (fun _ hm => ?_)
    · refine q_aload_n C (k4 := 0) 0 rfl (by decide +kernel) ?_
      refine q_aload_n C (k4 := 0) 0 rfl (by decide +kernel) ?_
      refine q_getn C fl_12_74 hm (by decide +kernel) (fun v5 hm => ?_)
      refine q_iload_n C (k4 := 1) 1 rfl (by decide +kernel) ?_
      refine q_ir C hm (by decide +kernel) (fun v6 hm => ?_)
      refine q_putf C fl_12_42 hm rfl rfl (by decide +kernel) (fun h7 hm => ?_)
      refine q_aload_n C (k4 := 0) 0 rfl (by decide +kernel) ?_
      refine q_aload_n C (k4 := 0) 0 rfl (by decide +kernel) ?_
      refine q_getn C fl_12_77 hm (by decide +kernel) (fun v8 hm => ?_)
      refine q_iload_n C (k4 := 1) 1 rfl (by decide +kernel) ?_
      refine q_ir C hm (by decide +kernel) (fun v9 hm => ?_)
      refine q_putf C fl_12_445 hm rfl rfl (by decide +kernel) (fun h10 hm => ?_)
      refine q_aload_n C (k4 := 0) 0 rfl (by decide +kernel) ?_
      refine q_iconst C (n := 0) (v := 0) (by decide) (by decide +kernel) ?_
      refine q_putf C fl_12_260 hm rfl rfl (by decide +kernel) (fun h11 hm => ?_)
      refine q_iconst C (n := 0) (v := 0) (by decide) (by decide +kernel) ?_
      refine q_istore_n C Rm.1 (k4 := 2) (i := 2) rfl (lv' := [(2, .int ((0 : Int32))), (0, .ref a0), (1, .int a1)]) rfl (by decide) (by decide +kernel) ?_
      refine q_loc [1, 2, 0] rfl ?_
      exact v_X12_back_50 C Rm K _ _ _ _ _ hm
    · refine q_iconst C (n := (-1)) (v := (-1)) (by decide) (by decide +kernel) ?_
      exact q_riS hm K rfl (by decide +kernel)
