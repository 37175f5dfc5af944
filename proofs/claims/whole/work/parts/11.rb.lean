def m_X12_fact_72 (k2 : q_H → Nat → Int32 → Option (Int32 × q_H)) (h : q_H) (x0 : Nat) (x1 : Int32) : Option (Int32 × q_H) :=
  k2 h x0 x1
set_option maxRecDepth 20000 in
set_option maxHeartbeats 1000000 in
theorem v_X12_fact_72 {Γ : q_G} {sz : Nat} {r : Int32} {h' : q_H} (C : q_C Γ cX12_fact RX12) (Rm : q_Rm Γ 3 7 154 0 0) {k2 : q_H → Nat → Int32 → Option (Int32 × q_H)} (K : narrow .boolean (.int r) = .int r → q_K Γ cX12_fact .ireturn sz h' 0 0 [.int r]) (hk2 : ∀ (h : q_H) (x0 : Nat) (x1 : Int32), k2 h x0 x1 = some (r, h') → q_V Γ sz 0 0 h [(0, .ref x0), (1, .int x1)] [] 2) : ∀ (h : q_H) (x0 : Nat) (x1 : Int32), m_X12_fact_72 k2 h x0 x1 = some (r, h') → q_V Γ sz 0 0 h [(0, .ref x0), (1, .int x1)] [] 72 := by
  intro h x0 x1 hm
  unfold m_X12_fact_72 at hm
  refine q_goto C (off := -70) 2 (by decide +kernel) (by decide) ?_
  exact hk2 _ _ _ hm
def m_X12_fact_2  : Nat → q_H → Nat → Int32 → Option (Int32 × q_H)
  | 0, _, _, _ => none
  | n + 1, h, x0, x1 =>
    if x1 = 0 then
      (q_ca 12 h x0 (m_X12_compare h x0)).bind fun (r1, h2) =>
      some (r1, h2)
    else
      (q_ca 12 h x0 (m_X12_see h x0)).bind fun (r4, h5) =>
      (q_ca 12 h5 x0 (m_X12_isWord h5 x0 ((7237492 : Int64)))).bind fun (r7, h8) =>
      if r7 = 0 then
        if r4 = (91 : Int32) then
          (q_ca 12 h8 x0 (m_X12_opens h8 x0 ((91 : Int32)))).bind fun (r10, h11) =>
          if r10 = 0 then
            some ((0 : Int32), h11)
          else
            (q_gi h11 x0 12 8).bind fun v13 =>
            (q_pf h11 x0 12 8 (.int ((v13 + (1 : Int32))))).bind fun h14 =>
            m_X12_fact_72 (m_X12_fact_2 n) h14 x0 ((1 : Int32))
        else
          m_X12_fact_72 (m_X12_fact_2 n) h8 x0 ((0 : Int32))
      else
        (q_ca 12 h8 x0 (m_X12_opens h8 x0 ((11 : Int32)))).bind fun (r15, h16) =>
        if r15 = 0 then
          some ((0 : Int32), h16)
        else
          (q_ca 12 h16 x0 (m_X12_passWord h16 x0)).bind fun h19 =>
          m_X12_fact_72 (m_X12_fact_2 n) h19 x0 ((1 : Int32))
set_option maxRecDepth 20000 in
set_option maxHeartbeats 1000000 in
theorem v_X12_fact_2 {Γ : q_G} {sz : Nat} {r : Int32} {h' : q_H} (C : q_C Γ cX12_fact RX12) (Rm : q_Rm Γ 3 7 154 0 0)  (K : narrow .boolean (.int r) = .int r → q_K Γ cX12_fact .ireturn sz h' 0 0 [.int r])  : ∀ (n : Nat) (h : q_H) (x0 : Nat) (x1 : Int32), m_X12_fact_2 n h x0 x1 = some (r, h') → q_V Γ sz 0 0 h [(0, .ref x0), (1, .int x1)] [] 2 := by
  intro n
  induction n with
  | zero => intro h x0 x1 hm; cases hm
  | succ n ih =>
    intro h x0 x1 hm
    unfold m_X12_fact_2 at hm
    refine q_iload_n C (k4 := 1) 1 rfl (by decide +kernel) ?_
    refine q_if_eq C (off := 72) 75 hm (by decide +kernel) (by decide) (fun _ hm => ?_) (fun _ hm => ?_)
    · refine q_aload_n C (k4 := 0) 0 rfl (by decide +kernel) ?_
      refine q_viS C Rm (As := []) (rest := []) Y_X12_compare Yv_X12_compare ml_X12_192 (by decide) (by decide) hm (fun r1 h2 e9 => c_X12_compare _ _ _ _ _ _ _ e9) rfl rfl (Nat.le_of_ble_eq_true rfl) (by decide +kernel) (fun r1 h2 hm z3 => ?_)
      exact q_riS hm K z3 (by decide +kernel)
    · refine q_iconst C (n := 0) (v := 0) (by decide) (by decide +kernel) ?_
      refine q_istore_n C Rm.1 (k4 := 1) (i := 1) rfl (lv' := [(1, .int ((0 : Int32))), (0, .ref x0)]) rfl (by decide) (by decide +kernel) ?_
      refine q_aload_n C (k4 := 0) 1 rfl (by decide +kernel) ?_
      refine q_viS C Rm (As := []) (rest := []) Y_X12_see Yv_X12_see ml_X12_96 (by decide) (by decide) hm (fun r4 h5 e9 => c_X12_see _ _ _ _ _ _ _ e9) rfl rfl (Nat.le_of_ble_eq_true rfl) (by decide +kernel) (fun r4 h5 hm z6 => ?_)
      refine q_istore_n C Rm.1 (k4 := 2) (i := 2) rfl (lv' := [(2, .int r4), (1, .int ((0 : Int32))), (0, .ref x0)]) rfl (by decide) (by decide +kernel) ?_
      refine q_aload_n C (k4 := 0) 2 rfl (by decide +kernel) ?_
      refine q_ldc2 C (idx := 187) (v := 7237492) (q_m6 138 rfl rfl) (by decide +kernel) ?_
      refine q_viS C Rm (As := [.long ((7237492 : Int64))]) (rest := []) Y_X12_isWord Yv_X12_isWord ml_X12_104 (by decide) (by decide) hm (fun r7 h8 e9 => c_X12_isWord _ _ _ _ _ _ _ _ e9) rfl rfl (Nat.le_of_ble_eq_true rfl) (by decide +kernel) (fun r7 h8 hm z9 => ?_)
      refine q_if_eq C (off := 23) 43 hm (by decide +kernel) (by decide) (fun _ hm => ?_) (fun _ hm => ?_)
      · refine q_iload_n C (k4 := 2) 0 rfl (by decide +kernel) ?_
        refine q_bipush C (n := 91) (v := 91) (by decide) (by decide +kernel) ?_
        refine q_icmp_ne C (off := 26) 72 hm (by decide +kernel) (by decide) (fun _ hm => ?_) (fun _ hm => ?_)
        · refine q_loc [2, 1] rfl ?_
          exact v_X12_fact_72 C Rm K ih _ _ _ hm
        · refine q_aload_n C (k4 := 0) 2 rfl (by decide +kernel) ?_
          refine q_bipush C (n := 91) (v := 91) (by decide) (by decide +kernel) ?_
          refine q_viS C Rm (As := [.int ((91 : Int32))]) (rest := []) Y_X12_opens Yv_X12_opens ml_X12_189 (by decide) (by decide) hm (fun r10 h11 e9 => c_X12_opens _ _ _ _ _ _ _ _ e9) rfl rfl (Nat.le_of_ble_eq_true rfl) (by decide +kernel) (fun r10 h11 hm z12 => ?_)
          refine q_if_ne C (off := 5) 60 hm (by decide +kernel) (by decide) (fun _ hm => ?_) (fun _ hm => ?_)
          · refine q_aload_n C (k4 := 0) 2 rfl (by decide +kernel) ?_
            refine q_dup C rfl (by decide +kernel) ?_
            refine q_geti C fl_12_93 hm (by decide +kernel) (fun v13 hm => ?_)
            refine q_iconst C (n := 1) (v := 1) (by decide) (by decide +kernel) ?_
            refine q_iadd C (by decide +kernel) ?_
            refine q_putf C fl_12_93 hm rfl rfl (by decide +kernel) (fun h14 hm => ?_)
            refine q_iconst C (n := 1) (v := 1) (by decide) (by decide +kernel) ?_
            refine q_istore_n C Rm.1 (k4 := 1) (i := 1) rfl (lv' := [(1, .int ((1 : Int32))), (2, .int r4), (0, .ref x0)]) rfl (by decide) (by decide +kernel) ?_
            refine q_loc [2, 0] rfl ?_
            exact v_X12_fact_72 C Rm K ih _ _ _ hm
          · refine q_iconst C (n := 0) (v := 0) (by decide) (by decide +kernel) ?_
            exact q_riS hm K q_z0 (by decide +kernel)
      · refine q_aload_n C (k4 := 0) 2 rfl (by decide +kernel) ?_
        refine q_bipush C (n := 11) (v := 11) (by decide) (by decide +kernel) ?_
        refine q_viS C Rm (As := [.int ((11 : Int32))]) (rest := []) Y_X12_opens Yv_X12_opens ml_X12_189 (by decide) (by decide) hm (fun r15 h16 e9 => c_X12_opens _ _ _ _ _ _ _ _ e9) rfl rfl (Nat.le_of_ble_eq_true rfl) (by decide +kernel) (fun r15 h16 hm z17 => ?_)
        refine q_if_ne C (off := 5) 34 hm (by decide +kernel) (by decide) (fun _ hm => ?_) (fun _ hm => ?_)
        · refine q_aload_n C (k4 := 0) 2 rfl (by decide +kernel) ?_
          refine q_vvS C Rm (As := []) (rest := []) Y_X12_passWord Yv_X12_passWord ml_X12_108 (by decide) (by decide) hm (fun h19 e9 => c_X12_passWord _ _ _ _ _ _ _ e9) rfl rfl (Nat.le_of_ble_eq_true rfl) (by decide +kernel) (fun h19 hm => ?_)
          refine q_iconst C (n := 1) (v := 1) (by decide) (by decide +kernel) ?_
          refine q_istore_n C Rm.1 (k4 := 1) (i := 1) rfl (lv' := [(1, .int ((1 : Int32))), (2, .int r4), (0, .ref x0)]) rfl (by decide) (by decide +kernel) ?_
          refine q_goto C (off := 32) 72 (by decide +kernel) (by decide) ?_
          refine q_loc [2, 0] rfl ?_
          exact v_X12_fact_72 C Rm K ih _ _ _ hm
        · refine q_iconst C (n := 0) (v := 0) (by decide) (by decide +kernel) ?_
          exact q_riS hm K q_z0 (by decide +kernel)
def m_X12_fact (h : q_H) (a0 : Nat) : Option (Int32 × q_H) :=
  m_X12_fact_2 q_fu h a0 ((1 : Int32))
set_option maxRecDepth 20000 in
set_option maxHeartbeats 1000000 in
theorem c_X12_fact (l : Launch) (base : Nat) (D : va_G) (tc : Nat → ClassId) (sz : Nat) (h : q_H) (a0 : Nat) {r : Int32} {h' : q_H} (hm : m_X12_fact h a0 = some (r, h')) : q_M l yX12_fact cX12_fact 3 (some .boolean) 7 154 0 0 base D tc [.ref a0] sz h (some (.int r)) sz h' := by
  refine q_starti (by decide) (Nat.le_of_ble_eq_true rfl) (fun Γ B K => ?_)
  obtain ⟨C, Rm, -⟩ := B
  have C : q_C Γ cX12_fact RX12 := C
  show q_V Γ sz 0 0 h [(0, .ref a0)] [] 0
  unfold m_X12_fact at hm
  refine q_iconst C (n := 1) (v := 1) (by decide) (by decide +kernel) ?_
  refine q_istore_n C Rm.1 (k4 := 1) (i := 1) rfl (lv' := [(1, .int ((1 : Int32))), (0, .ref a0)]) rfl (by decide) (by decide +kernel) ?_
  refine q_loc [1, 0] rfl ?_
  exact v_X12_fact_2 C Rm K _ _ _ _ hm
def m_X12_isInside_2  : Nat → q_H → Nat → Int32 → Option Int32
  | 0, _, _, _ => none
  | n + 1, h0, x0, x1 =>
    (q_gi h0 x0 12 16).bind fun v1 =>
    if v1 ≤ x1 then
      some ((0 : Int32))
    else
      (q_gn h0 x0 12 15).bind fun v2 =>
      (q_ai h0 v2 1 x1).bind fun v3 =>
      if v3 = (91 : Int32) then
        some ((1 : Int32))
      else
        m_X12_isInside_2 n h0 x0 ((x1 + (1 : Int32)))
set_option maxRecDepth 20000 in
set_option maxHeartbeats 1000000 in
theorem v_X12_isInside_2 {Γ : q_G} {sz : Nat} {h0 : q_H} {r : Int32} (C : q_C Γ cX12_isInside RX12) (Rm : q_Rm Γ 2 0 0 0 0)  (K : narrow .boolean (.int r) = .int r → q_K Γ cX12_isInside .ireturn sz h0 0 0 [.int r])  : ∀ (n : Nat) (x0 : Nat) (x1 : Int32), m_X12_isInside_2 n h0 x0 x1 = some r → q_V Γ sz 0 0 h0 [(0, .ref x0), (1, .int x1)] [] 2 := by
  intro n
  induction n with
  | zero => intro x0 x1 hm; cases hm
  | succ n ih =>
    intro x0 x1 hm
    unfold m_X12_isInside_2 at hm
    refine q_iload_n C (k4 := 1) 1 rfl (by decide +kernel) ?_
    refine q_aload_n C (k4 := 0) 0 rfl (by decide +kernel) ?_
    refine q_geti C fl_12_156 hm (by decide +kernel) (fun v1 hm => ?_)
    refine q_icmp_ge C (off := 22) 29 hm (by decide +kernel) (by decide) (fun _ hm => ?_) (fun _ hm => ?_)
    · refine q_iconst C (n := 0) (v := 0) (by decide) (by decide +kernel) ?_
      exact q_riP hm K q_z0 (by decide +kernel)
    · refine q_aload_n C (k4 := 0) 0 rfl (by decide +kernel) ?_
      refine q_getn C fl_12_29 hm (by decide +kernel) (fun v2 hm => ?_)
      refine q_iload_n C (k4 := 1) 1 rfl (by decide +kernel) ?_
      refine q_ir C hm (by decide +kernel) (fun v3 hm => ?_)
      refine q_bipush C (n := 91) (v := 91) (by decide) (by decide +kernel) ?_
      refine q_icmp_ne C (off := 5) 23 hm (by decide +kernel) (by decide) (fun _ hm => ?_) (fun _ hm => ?_)
      · refine q_iinc C Rm.1 (i := 1) (n := 1) (v := (x1 + (1 : Int32))) 1 rfl (q_inc _ (by decide)) (lv' := [(1, .int ((x1 + (1 : Int32)))), (0, .ref x0)]) rfl (by decide) (by decide +kernel) ?_
        refine q_goto C (off := -24) 2 (by decide +kernel) (by decide) ?_
        refine q_loc [1, 0] rfl ?_
        exact ih _ _ hm
      · refine q_iconst C (n := 1) (v := 1) (by decide) (by decide +kernel) ?_
        exact q_riP hm K q_z1 (by decide +kernel)
def m_X12_isInside (h0 : q_H) (a0 : Nat) : Option Int32 :=
  m_X12_isInside_2 q_fu h0 a0 ((0 : Int32))
set_option maxRecDepth 20000 in
set_option maxHeartbeats 1000000 in
theorem c_X12_isInside (l : Launch) (base : Nat) (D : va_G) (tc : Nat → ClassId) (sz : Nat) (h0 : q_H) (a0 : Nat) {r : Int32} (hm : m_X12_isInside h0 a0 = some r) : q_M l yX12_isInside cX12_isInside 2 (some .boolean) 0 0 0 0 base D tc [.ref a0] sz h0 (some (.int r)) sz h0 := by
  refine q_starti (by decide) (Nat.le_of_ble_eq_true rfl) (fun Γ B K => ?_)
  obtain ⟨C, Rm, -⟩ := B
  have C : q_C Γ cX12_isInside RX12 := C
  show q_V Γ sz 0 0 h0 [(0, .ref a0)] [] 0
  unfold m_X12_isInside at hm
  refine q_iconst C (n := 0) (v := 0) (by decide) (by decide +kernel) ?_
  refine q_istore_n C Rm.1 (k4 := 1) (i := 1) rfl (lv' := [(1, .int ((0 : Int32))), (0, .ref a0)]) rfl (by decide) (by decide +kernel) ?_
  refine q_loc [1, 0] rfl ?_
  exact v_X12_isInside_2 C Rm K _ _ _ hm
def m_X12_closes_5  : Nat → q_H → Nat → Option q_H
  | 0, _, _ => none
  | n + 1, h, x0 =>
    (q_ca 12 h x0 (m_X12_see h x0)).bind fun (r3, h4) =>
    if r3 = (93 : Int32) then
      (q_ca 12 h4 x0 (m_X12_isInside h4 x0)).bind fun r6 =>
      if r6 = 0 then
        some h4
      else
        (q_ca 12 h4 x0 (m_X12_layDown h4 x0 ((1 : Int32)))).bind fun h9 =>
        (q_gi h9 x0 12 16).bind fun v10 =>
        (q_pf h9 x0 12 16 (.int ((v10 - (1 : Int32))))).bind fun h11 =>
        (q_gi h11 x0 12 13).bind fun v12 =>
        (q_pf h11 x0 12 13 (.int ((v12 - (1 : Int32))))).bind fun h13 =>
        (q_gi h13 x0 12 8).bind fun v14 =>
        (q_pf h13 x0 12 8 (.int ((v14 + (1 : Int32))))).bind fun h15 =>
        (q_ca 12 h15 x0 (m_X12_layDown h15 x0 ((3 : Int32)))).bind fun h17 =>
        m_X12_closes_5 n h17 x0
    else
      some h4
set_option maxRecDepth 20000 in
set_option maxHeartbeats 1000000 in
theorem v_X12_closes_5 {Γ : q_G} {sz : Nat} {h' : q_H} (C : q_C Γ cX12_closes RX12) (Rm : q_Rm Γ 1 2 43 0 0)  (K : q_K Γ cX12_closes .return_ sz h' 0 0 [])  : ∀ (n : Nat) (h : q_H) (x0 : Nat), m_X12_closes_5 n h x0 = some h' → q_V Γ sz 0 0 h [(0, .ref x0)] [] 5 := by
  intro n
  induction n with
  | zero => intro h x0 hm; cases hm
  | succ n ih =>
    intro h x0 hm
    unfold m_X12_closes_5 at hm
    refine q_aload_n C (k4 := 0) 0 rfl (by decide +kernel) ?_
    refine q_viS C Rm (As := []) (rest := []) Y_X12_see Yv_X12_see ml_X12_96 (by decide) (by decide) hm (fun r3 h4 e9 => c_X12_see _ _ _ _ _ _ _ e9) rfl rfl (Nat.le_of_ble_eq_true rfl) (by decide +kernel) (fun r3 h4 hm z5 => ?_)
    refine q_bipush C (n := 93) (v := 93) (by decide) (by decide +kernel) ?_
    refine q_icmp_ne C (off := 53) 64 hm (by decide +kernel) (by decide) (fun _ hm => ?_) (fun _ hm => ?_)
    · exact q_rvS hm K (by decide +kernel)
    · refine q_aload_n C (k4 := 0) 0 rfl (by decide +kernel) ?_
      refine q_viP C Rm (As := []) (rest := []) Y_X12_isInside Yv_X12_isInside ml_X12_198 (by decide) (by decide) hm (fun r9 e9 => c_X12_isInside _ _ _ _ _ _ _ e9) rfl rfl (Nat.le_of_ble_eq_true rfl) (by decide +kernel) (fun r6 hm z7 => ?_)
      refine q_if_eq C (off := 46) 64 hm (by decide +kernel) (by decide) (fun _ hm => ?_) (fun _ hm => ?_)
      · exact q_rvS hm K (by decide +kernel)
      · refine q_aload_n C (k4 := 0) 0 rfl (by decide +kernel) ?_
        refine q_iconst C (n := 1) (v := 1) (by decide) (by decide +kernel) ?_
        refine q_vvS C Rm (As := [.int ((1 : Int32))]) (rest := []) Y_X12_layDown Yv_X12_layDown ml_X12_195 (by decide) (by decide) hm (fun h9 e9 => c_X12_layDown _ _ _ _ _ _ _ _ e9) rfl rfl (Nat.le_of_ble_eq_true rfl) (by decide +kernel) (fun h9 hm => ?_)
        refine q_aload_n C (k4 := 0) 0 rfl (by decide +kernel) ?_
        refine q_dup C rfl (by decide +kernel) ?_
        refine q_geti C fl_12_156 hm (by decide +kernel) (fun v10 hm => ?_)
        refine q_iconst C (n := 1) (v := 1) (by decide) (by decide +kernel) ?_
        refine q_isub C (by decide +kernel) ?_
        refine q_putf C fl_12_156 hm rfl rfl (by decide +kernel) (fun h11 hm => ?_)
        refine q_aload_n C (k4 := 0) 0 rfl (by decide +kernel) ?_
        refine q_dup C rfl (by decide +kernel) ?_
        refine q_geti C fl_12_153 hm (by decide +kernel) (fun v12 hm => ?_)
        refine q_iconst C (n := 1) (v := 1) (by decide) (by decide +kernel) ?_
        refine q_isub C (by decide +kernel) ?_
        refine q_putf C fl_12_153 hm rfl rfl (by decide +kernel) (fun h13 hm => ?_)
        refine q_aload_n C (k4 := 0) 0 rfl (by decide +kernel) ?_
        refine q_dup C rfl (by decide +kernel) ?_
        refine q_geti C fl_12_93 hm (by decide +kernel) (fun v14 hm => ?_)
        refine q_iconst C (n := 1) (v := 1) (by decide) (by decide +kernel) ?_
        refine q_iadd C (by decide +kernel) ?_
        refine q_putf C fl_12_93 hm rfl rfl (by decide +kernel) (fun h15 hm => ?_)
        refine q_aload_n C (k4 := 0) 0 rfl (by decide +kernel) ?_
        refine q_iconst C (n := 3) (v := 3) (by decide) (by decide +kernel) ?_
        refine q_vvS C Rm (As := [.int ((3 : Int32))]) (rest := []) Y_X12_layDown Yv_X12_layDown ml_X12_195 (by decide) (by decide) hm (fun h17 e9 => c_X12_layDown _ _ _ _ _ _ _ _ e9) rfl rfl (Nat.le_of_ble_eq_true rfl) (by decide +kernel) (fun h17 hm => ?_)
        refine q_goto C (off := -56) 5 (by decide +kernel) (by decide) ?_
        exact ih _ _ hm
def m_X12_closes (h : q_H) (a0 : Nat) : Option q_H :=
  (q_ca 12 h a0 (m_X12_layDown h a0 ((3 : Int32)))).bind fun h2 =>
  m_X12_closes_5 q_fu h2 a0
set_option maxRecDepth 20000 in
set_option maxHeartbeats 1000000 in
theorem c_X12_closes (l : Launch) (base : Nat) (D : va_G) (tc : Nat → ClassId) (sz : Nat) (h : q_H) (a0 : Nat) {h' : q_H} (hm : m_X12_closes h a0 = some h') : q_M l yX12_closes cX12_closes 1 none 2 43 0 0 base D tc [.ref a0] sz h none sz h' := by
  refine q_startv (by decide) (Nat.le_of_ble_eq_true rfl) (fun Γ B K => ?_)
  obtain ⟨C, Rm, -⟩ := B
  have C : q_C Γ cX12_closes RX12 := C
  show q_V Γ sz 0 0 h [(0, .ref a0)] [] 0
  unfold m_X12_closes at hm
  refine q_aload_n C (k4 := 0) 0 rfl (by decide +kernel) ?_
  refine q_iconst C (n := 3) (v := 3) (by decide) (by decide +kernel) ?_
  refine q_vvS C Rm (As := [.int ((3 : Int32))]) (rest := []) Y_X12_layDown Yv_X12_layDown ml_X12_195 (by decide) (by decide) hm (fun h2 e9 => c_X12_layDown _ _ _ _ _ _ _ _ e9) rfl rfl (Nat.le_of_ble_eq_true rfl) (by decide +kernel) (fun h2 hm => ?_)
  exact v_X12_closes_5 C Rm K _ _ _ hm
def m_X12_tested_76 (k12 : q_H → Nat → Int32 → Option (Int32 × q_H)) (h : q_H) (x0 : Nat) (x1 : Int32) (s0 : Int32) : Option (Int32 × q_H) :=
  (q_ca 12 h x0 (m_X12_passWord h x0)).bind fun h29 =>
  (m_X12_strength s0).bind fun r30 =>
  (q_ca 12 h29 x0 (m_X12_layDown h29 x0 r30)).bind fun h33 =>
  (q_gn h33 x0 12 15).bind fun v34 =>
  (q_gi h33 x0 12 16).bind fun v35 =>
  (q_si h33 v34 1 v35 s0).bind fun h36 =>
  (q_gi h36 x0 12 16).bind fun v37 =>
  (q_pf h36 x0 12 16 (.int ((v37 + (1 : Int32))))).bind fun h38 =>
  k12 h38 x0 x1
set_option maxRecDepth 20000 in
set_option maxHeartbeats 1000000 in
theorem v_X12_tested_76 {Γ : q_G} {sz : Nat} {r : Int32} {h' : q_H} (C : q_C Γ cX12_tested RX12) (Rm : q_Rm Γ 3 8 176 0 0) {k12 : q_H → Nat → Int32 → Option (Int32 × q_H)} (K : narrow .boolean (.int r) = .int r → q_K Γ cX12_tested .ireturn sz h' 0 0 [.int r]) (hk12 : ∀ (h : q_H) (x0 : Nat) (x1 : Int32), k12 h x0 x1 = some (r, h') → q_V Γ sz 0 0 h [(0, .ref x0), (1, .int x1)] [] 12) : ∀ (h : q_H) (x0 : Nat) (x1 : Int32) (s0 : Int32), m_X12_tested_76 k12 h x0 x1 s0 = some (r, h') → q_V Γ sz 0 0 h [(0, .ref x0), (1, .int x1)] [.int s0] 76 := by
  intro h x0 x1 s0 hm
  unfold m_X12_tested_76 at hm
  refine q_istore_n C Rm.1 (k4 := 2) (i := 2) rfl (lv' := [(2, .int s0), (0, .ref x0), (1, .int x1)]) rfl (by decide) (by decide +kernel) ?_
  refine q_aload_n C (k4 := 0) 1 rfl (by decide +kernel) ?_
  refine q_vvS C Rm (As := []) (rest := []) Y_X12_passWord Yv_X12_passWord ml_X12_108 (by decide) (by decide) hm (fun h29 e9 => c_X12_passWord _ _ _ _ _ _ _ e9) rfl rfl (Nat.le_of_ble_eq_true rfl) (by decide +kernel) (fun h29 hm => ?_)
  refine q_aload_n C (k4 := 0) 1 rfl (by decide +kernel) ?_
  refine q_iload_n C (k4 := 2) 0 rfl (by decide +kernel) ?_
  refine q_siP C Rm (As := [.int s0]) (rest := [.ref x0]) Y_X12_strength Ys_X12_strength ml_X12_159 (by decide) (by decide) hm (fun r9 e9 => c_X12_strength _ _ _ _ _ _ _ e9) rfl rfl (Nat.le_of_ble_eq_true rfl) (by decide +kernel) (fun r30 hm z31 => ?_)
  refine q_vvS C Rm (As := [.int r30]) (rest := []) Y_X12_layDown Yv_X12_layDown ml_X12_195 (by decide) (by decide) hm (fun h33 e9 => c_X12_layDown _ _ _ _ _ _ _ _ e9) rfl rfl (Nat.le_of_ble_eq_true rfl) (by decide +kernel) (fun h33 hm => ?_)
  refine q_aload_n C (k4 := 0) 1 rfl (by decide +kernel) ?_
  refine q_getn C fl_12_29 hm (by decide +kernel) (fun v34 hm => ?_)
  refine q_aload_n C (k4 := 0) 1 rfl (by decide +kernel) ?_
  refine q_geti C fl_12_156 hm (by decide +kernel) (fun v35 hm => ?_)
  refine q_iload_n C (k4 := 2) 0 rfl (by decide +kernel) ?_
  refine q_iw C hm (by decide +kernel) (fun h36 hm => ?_)
  refine q_aload_n C (k4 := 0) 1 rfl (by decide +kernel) ?_
  refine q_dup C rfl (by decide +kernel) ?_
  refine q_geti C fl_12_156 hm (by decide +kernel) (fun v37 hm => ?_)
  refine q_iconst C (n := 1) (v := 1) (by decide) (by decide +kernel) ?_
  refine q_iadd C (by decide +kernel) ?_
  refine q_putf C fl_12_156 hm rfl rfl (by decide +kernel) (fun h38 hm => ?_)
  refine q_goto C (off := -97) 12 (by decide +kernel) (by decide) ?_
  refine q_loc [1, 2] rfl ?_
  exact hk12 _ _ _ hm
def m_X12_tested_54 (k12 : q_H → Nat → Int32 → Option (Int32 × q_H)) (h : q_H) (x0 : Nat) (s0 : Int32) : Option (Int32 × q_H) :=
  if s0 = 0 then
    k12 h x0 s0
  else
    (q_ca 12 h x0 (m_X12_isWord h x0 ((6385252 : Int64)))).bind fun (r25, h26) =>
    if r25 = 0 then
      m_X12_tested_76 k12 h26 x0 s0 ((13 : Int32))
    else
      m_X12_tested_76 k12 h26 x0 s0 ((12 : Int32))
set_option maxRecDepth 20000 in
set_option maxHeartbeats 1000000 in
theorem v_X12_tested_54 {Γ : q_G} {sz : Nat} {r : Int32} {h' : q_H} (C : q_C Γ cX12_tested RX12) (Rm : q_Rm Γ 3 8 176 0 0) {k12 : q_H → Nat → Int32 → Option (Int32 × q_H)} (K : narrow .boolean (.int r) = .int r → q_K Γ cX12_tested .ireturn sz h' 0 0 [.int r]) (hk12 : ∀ (h : q_H) (x0 : Nat) (x1 : Int32), k12 h x0 x1 = some (r, h') → q_V Γ sz 0 0 h [(0, .ref x0), (1, .int x1)] [] 12) : ∀ (h : q_H) (x0 : Nat) (s0 : Int32), m_X12_tested_54 k12 h x0 s0 = some (r, h') → q_V Γ sz 0 0 h [(0, .ref x0)] [.int s0] 54 := by
  intro h x0 s0 hm
  unfold m_X12_tested_54 at hm
  refine q_istore_n C Rm.1 (k4 := 1) (i := 1) rfl (lv' := [(1, .int s0), (0, .ref x0)]) rfl (by decide) (by decide +kernel) ?_
  refine q_iload_n C (k4 := 1) 0 rfl (by decide +kernel) ?_
  refine q_if_eq C (off := -44) 12 hm (by decide +kernel) (by decide) (fun _ hm => ?_) (fun _ hm => ?_)
  · refine q_loc [1, 0] rfl ?_
    exact hk12 _ _ _ hm
  · refine q_aload_n C (k4 := 0) 1 rfl (by decide +kernel) ?_
    refine q_ldc2 C (idx := 207) (v := 6385252) (q_m6 162 rfl rfl) (by decide +kernel) ?_
    refine q_viS C Rm (As := [.long ((6385252 : Int64))]) (rest := []) Y_X12_isWord Yv_X12_isWord ml_X12_104 (by decide) (by decide) hm (fun r25 h26 e9 => c_X12_isWord _ _ _ _ _ _ _ _ e9) rfl rfl (Nat.le_of_ble_eq_true rfl) (by decide +kernel) (fun r25 h26 hm z27 => ?_)
    refine q_if_eq C (off := 8) 74 hm (by decide +kernel) (by decide) (fun _ hm => ?_) (fun _ hm => ?_)
    · refine q_bipush C (n := 13) (v := 13) (by decide) (by decide +kernel) ?_
      refine q_loc [1, 0] rfl ?_
      exact v_X12_tested_76 C Rm K hk12 _ _ _ _ hm
    · refine q_bipush C (n := 12) (v := 12) (by decide) (by decide +kernel) ?_
      refine q_goto C (off := 5) 76 (by decide +kernel) (by decide) ?_
      refine q_loc [1, 0] rfl ?_
      exact v_X12_tested_76 C Rm K hk12 _ _ _ _ hm
def m_X12_tested_49 (k12 : q_H → Nat → Int32 → Option (Int32 × q_H)) (h : q_H) (x0 : Nat) : Option (Int32 × q_H) :=
  m_X12_tested_54 k12 h x0 ((1 : Int32))
set_option maxRecDepth 20000 in
set_option maxHeartbeats 1000000 in
theorem v_X12_tested_49 {Γ : q_G} {sz : Nat} {r : Int32} {h' : q_H} (C : q_C Γ cX12_tested RX12) (Rm : q_Rm Γ 3 8 176 0 0) {k12 : q_H → Nat → Int32 → Option (Int32 × q_H)} (K : narrow .boolean (.int r) = .int r → q_K Γ cX12_tested .ireturn sz h' 0 0 [.int r]) (hk12 : ∀ (h : q_H) (x0 : Nat) (x1 : Int32), k12 h x0 x1 = some (r, h') → q_V Γ sz 0 0 h [(0, .ref x0), (1, .int x1)] [] 12) : ∀ (h : q_H) (x0 : Nat), m_X12_tested_49 k12 h x0 = some (r, h') → q_V Γ sz 0 0 h [(0, .ref x0)] [] 49 := by
  intro h x0 hm
  unfold m_X12_tested_49 at hm
  refine q_iconst C (n := 1) (v := 1) (by decide) (by decide +kernel) ?_
  refine q_goto C (off := 4) 54 (by decide +kernel) (by decide) ?_
  exact v_X12_tested_54 C Rm K hk12 _ _ _ hm
def m_X12_tested_12  : Nat → q_H → Nat → Int32 → Option (Int32 × q_H)
  | 0, _, _, _ => none
  | n + 1, h, x0, x1 =>
    if x1 = 0 then
      (q_ca 12 h x0 (m_X12_isInside h x0)).bind fun r3 =>
      if r3 = 0 then
        (q_ca 12 h x0 (m_X12_layDown h x0 ((1 : Int32)))).bind fun h6 =>
        some ((1 : Int32), h6)
      else
        (q_ca 12 h x0 (m_X12_see h x0)).bind fun (r7, h8) =>
        (q_gi h8 x0 12 8).bind fun v10 =>
        (q_ca 12 h8 x0 (m_X12_fails h8 x0 ((0 : Int32)) v10)).bind fun (r11, h12) =>
        some (r11, h12)
    else
      (q_ca 12 h x0 (m_X12_fact h x0)).bind fun (r14, h15) =>
      if r14 = 0 then
        some ((0 : Int32), h15)
      else
        (q_ca 12 h15 x0 (m_X12_closes h15 x0)).bind fun h18 =>
        (q_ca 12 h18 x0 (m_X12_isWord h18 x0 ((6385252 : Int64)))).bind fun (r19, h20) =>
        if r19 = 0 then
          (q_ca 12 h20 x0 (m_X12_isWord h20 x0 ((28530 : Int64)))).bind fun (r22, h23) =>
          if r22 = 0 then
            m_X12_tested_54 (m_X12_tested_12 n) h23 x0 ((0 : Int32))
          else
            m_X12_tested_49 (m_X12_tested_12 n) h23 x0
        else
          m_X12_tested_49 (m_X12_tested_12 n) h20 x0
set_option maxRecDepth 20000 in
set_option maxHeartbeats 1000000 in
theorem v_X12_tested_12 {Γ : q_G} {sz : Nat} {r : Int32} {h' : q_H} (C : q_C Γ cX12_tested RX12) (Rm : q_Rm Γ 3 8 176 0 0)  (K : narrow .boolean (.int r) = .int r → q_K Γ cX12_tested .ireturn sz h' 0 0 [.int r])  : ∀ (n : Nat) (h : q_H) (x0 : Nat) (x1 : Int32), m_X12_tested_12 n h x0 x1 = some (r, h') → q_V Γ sz 0 0 h [(0, .ref x0), (1, .int x1)] [] 12 := by
  intro n
  induction n with
  | zero => intro h x0 x1 hm; cases hm
  | succ n ih =>
    intro h x0 x1 hm
    unfold m_X12_tested_12 at hm
    refine q_iload_n C (k4 := 1) 1 rfl (by decide +kernel) ?_
    refine q_if_eq C (off := 99) 112 hm (by decide +kernel) (by decide) (fun _ hm => ?_) (fun _ hm => ?_)
    · refine q_aload_n C (k4 := 0) 0 rfl (by decide +kernel) ?_
      refine q_viP C Rm (As := []) (rest := []) Y_X12_isInside Yv_X12_isInside ml_X12_198 (by decide) (by decide) hm (fun r9 e9 => c_X12_isInside _ _ _ _ _ _ _ e9) rfl rfl (Nat.le_of_ble_eq_true rfl) (by decide +kernel) (fun r3 hm z4 => ?_)
      refine q_if_eq C (off := 18) 134 hm (by decide +kernel) (by decide) (fun _ hm => ?_) (fun _ hm => ?_)
      · refine q_aload_n C (k4 := 0) 0 rfl (by decide +kernel) ?_
        refine q_iconst C (n := 1) (v := 1) (by decide) (by decide +kernel) ?_
        refine q_vvS C Rm (As := [.int ((1 : Int32))]) (rest := []) Y_X12_layDown Yv_X12_layDown ml_X12_195 (by decide) (by decide) hm (fun h6 e9 => c_X12_layDown _ _ _ _ _ _ _ _ e9) rfl rfl (Nat.le_of_ble_eq_true rfl) (by decide +kernel) (fun h6 hm => ?_)
        refine q_iconst C (n := 1) (v := 1) (by decide) (by decide +kernel) ?_
        exact q_riS hm K q_z1 (by decide +kernel)
      · refine q_aload_n C (k4 := 0) 0 rfl (by decide +kernel) ?_
        refine q_viS C Rm (As := []) (rest := []) Y_X12_see Yv_X12_see ml_X12_96 (by decide) (by decide) hm (fun r7 h8 e9 => c_X12_see _ _ _ _ _ _ _ e9) rfl rfl (Nat.le_of_ble_eq_true rfl) (by decide +kernel) (fun r7 h8 hm z9 => ?_)
        refine q_pop C rfl (by decide +kernel) ?_
        refine q_aload_n C (k4 := 0) 0 rfl (by decide +kernel) ?_
        refine q_iconst C (n := 0) (v := 0) (by decide) (by decide +kernel) ?_
        refine q_aload_n C (k4 := 0) 0 rfl (by decide +kernel) ?_
        refine q_geti C fl_12_93 hm (by decide +kernel) (fun v10 hm => ?_)
        refine q_viS C Rm (As := [.int ((0 : Int32)), .int v10]) (rest := []) Y_X12_fails Yv_X12_fails ml_X12_114 (by decide) (by decide) hm (fun r11 h12 e9 => c_X12_fails _ _ _ _ _ _ _ _ _ e9) rfl rfl (Nat.le_of_ble_eq_true rfl) (by decide +kernel) (fun r11 h12 hm z13 => ?_)
        exact q_riS hm K z13 (by decide +kernel)
    · refine q_aload_n C (k4 := 0) 0 rfl (by decide +kernel) ?_
      refine q_viS C Rm (As := []) (rest := []) Y_X12_fact Yv_X12_fact ml_X12_201 (by decide) (by decide) hm (fun r14 h15 e9 => c_X12_fact _ _ _ _ _ _ _ e9) rfl rfl (Nat.le_of_ble_eq_true rfl) (by decide +kernel) (fun r14 h15 hm z16 => ?_)
      refine q_if_ne C (off := 5) 25 hm (by decide +kernel) (by decide) (fun _ hm => ?_) (fun _ hm => ?_)
      · refine q_aload_n C (k4 := 0) 0 rfl (by decide +kernel) ?_
        refine q_vvS C Rm (As := []) (rest := []) Y_X12_closes Yv_X12_closes ml_X12_204 (by decide) (by decide) hm (fun h18 e9 => c_X12_closes _ _ _ _ _ _ _ e9) rfl rfl (Nat.le_of_ble_eq_true rfl) (by decide +kernel) (fun h18 hm => ?_)
        refine q_aload_n C (k4 := 0) 0 rfl (by decide +kernel) ?_
        refine q_ldc2 C (idx := 207) (v := 6385252) (q_m6 162 rfl rfl) (by decide +kernel) ?_
        refine q_viS C Rm (As := [.long ((6385252 : Int64))]) (rest := []) Y_X12_isWord Yv_X12_isWord ml_X12_104 (by decide) (by decide) hm (fun r19 h20 e9 => c_X12_isWord _ _ _ _ _ _ _ _ e9) rfl rfl (Nat.le_of_ble_eq_true rfl) (by decide +kernel) (fun r19 h20 hm z21 => ?_)
        refine q_if_ne C (off := 13) 49 hm (by decide +kernel) (by decide) (fun _ hm => ?_) (fun _ hm => ?_)
        · refine q_loc [0] rfl ?_
          exact v_X12_tested_49 C Rm K ih _ _ hm
        · refine q_aload_n C (k4 := 0) 0 rfl (by decide +kernel) ?_
          refine q_ldc2 C (idx := 209) (v := 28530) (q_m6 163 rfl rfl) (by decide +kernel) ?_
          refine q_viS C Rm (As := [.long ((28530 : Int64))]) (rest := []) Y_X12_isWord Yv_X12_isWord ml_X12_104 (by decide) (by decide) hm (fun r22 h23 e9 => c_X12_isWord _ _ _ _ _ _ _ _ e9) rfl rfl (Nat.le_of_ble_eq_true rfl) (by decide +kernel) (fun r22 h23 hm z24 => ?_)
          refine q_if_eq C (off := 7) 53 hm (by decide +kernel) (by decide) (fun _ hm => ?_) (fun _ hm => ?_)
          · refine q_iconst C (n := 0) (v := 0) (by decide) (by decide +kernel) ?_
            refine q_loc [0] rfl ?_
            exact v_X12_tested_54 C Rm K ih _ _ _ hm
          · refine q_loc [0] rfl ?_
            exact v_X12_tested_49 C Rm K ih _ _ hm
      · refine q_iconst C (n := 0) (v := 0) (by decide) (by decide +kernel) ?_
        exact q_riS hm K q_z0 (by decide +kernel)
def m_X12_tested (h : q_H) (a0 : Nat) : Option (Int32 × q_H) :=
  (q_pf h a0 12 16 (.int ((0 : Int32)))).bind fun h1 =>
  (q_pf h1 a0 12 13 (.int ((0 : Int32)))).bind fun h2 =>
  m_X12_tested_12 q_fu h2 a0 ((1 : Int32))
set_option maxRecDepth 20000 in
set_option maxHeartbeats 1000000 in
theorem c_X12_tested (l : Launch) (base : Nat) (D : va_G) (tc : Nat → ClassId) (sz : Nat) (h : q_H) (a0 : Nat) {r : Int32} {h' : q_H} (hm : m_X12_tested h a0 = some (r, h')) : q_M l yX12_tested cX12_tested 3 (some .boolean) 8 176 0 0 base D tc [.ref a0] sz h (some (.int r)) sz h' := by
  refine q_starti (by decide) (Nat.le_of_ble_eq_true rfl) (fun Γ B K => ?_)
  obtain ⟨C, Rm, -⟩ := B
  have C : q_C Γ cX12_tested RX12 := C
  show q_V Γ sz 0 0 h [(0, .ref a0)] [] 0
  unfold m_X12_tested at hm
  refine q_aload_n C (k4 := 0) 0 rfl (by decide +kernel) ?_
  refine q_iconst C (n := 0) (v := 0) (by decide) (by decide +kernel) ?_
  refine q_putf C fl_12_156 hm rfl rfl (by decide +kernel) (fun h1 hm => ?_)
  refine q_aload_n C (k4 := 0) 0 rfl (by decide +kernel) ?_
  refine q_iconst C (n := 0) (v := 0) (by decide) (by decide +kernel) ?_
  refine q_putf C fl_12_153 hm rfl rfl (by decide +kernel) (fun h2 hm => ?_)
  refine q_iconst C (n := 1) (v := 1) (by decide) (by decide +kernel) ?_
  refine q_istore_n C Rm.1 (k4 := 1) (i := 1) rfl (lv' := [(1, .int ((1 : Int32))), (0, .ref a0)]) rfl (by decide) (by decide +kernel) ?_
  refine q_loc [1, 0] rfl ?_
  exact v_X12_tested_12 C Rm K _ _ _ _ hm
def m_X12_isPullHere_110  (h : q_H) (x0 : Nat) (x1 : Int32) : Option (Int32 × q_H) :=
  (q_gn h x0 12 5).bind fun v33 =>
  (q_gn h x0 12 4).bind fun v34 =>
  (q_gi h x0 12 11).bind fun v35 =>
  (q_ai h v34 1 v35).bind fun v36 =>
  (q_si h v33 1 ((x1 + (3 : Int32))) v36).bind fun h37 =>
  (q_gn h37 x0 12 6).bind fun v38 =>
  (q_gi h37 x0 12 11).bind fun v39 =>
  (q_ai h37 v38 1 v39).bind fun v40 =>
  (q_si h37 v38 1 v39 ((v40 + (1 : Int32)))).bind fun h41 =>
  some ((1 : Int32), h41)
set_option maxRecDepth 20000 in
set_option maxHeartbeats 1000000 in
theorem v_X12_isPullHere_110 {Γ : q_G} {sz : Nat} {r : Int32} {h' : q_H} (C : q_C Γ cX12_isPullHere RX12) (Rm : q_Rm Γ 2 9 198 0 0)  (K : narrow .boolean (.int r) = .int r → q_K Γ cX12_isPullHere .ireturn sz h' 0 0 [.int r])  : ∀ (h : q_H) (x0 : Nat) (x1 : Int32), m_X12_isPullHere_110 h x0 x1 = some (r, h') → q_V Γ sz 0 0 h [(0, .ref x0), (1, .int x1)] [] 110 := by
  intro h x0 x1 hm
  unfold m_X12_isPullHere_110 at hm
  refine q_aload_n C (k4 := 0) 0 rfl (by decide +kernel) ?_
  refine q_getn C fl_12_20 hm (by decide +kernel) (fun v33 hm => ?_)
  refine q_iload_n C (k4 := 1) 1 rfl (by decide +kernel) ?_
  refine q_iconst C (n := 3) (v := 3) (by decide) (by decide +kernel) ?_
  refine q_iadd C (by decide +kernel) ?_
  refine q_aload_n C (k4 := 0) 0 rfl (by decide +kernel) ?_
  refine q_getn C fl_12_17 hm (by decide +kernel) (fun v34 hm => ?_)
  refine q_aload_n C (k4 := 0) 0 rfl (by decide +kernel) ?_
  refine q_geti C fl_12_147 hm (by decide +kernel) (fun v35 hm => ?_)
  refine q_ir C hm (by decide +kernel) (fun v36 hm => ?_)
  refine q_iw C hm (by decide +kernel) (fun h37 hm => ?_)
  refine q_aload_n C (k4 := 0) 0 rfl (by decide +kernel) ?_
  refine q_getn C fl_12_23 hm (by decide +kernel) (fun v38 hm => ?_)
  refine q_aload_n C (k4 := 0) 0 rfl (by decide +kernel) ?_
  refine q_geti C fl_12_147 hm (by decide +kernel) (fun v39 hm => ?_)
  refine q_dup2 C rfl rfl (by decide +kernel) ?_
  refine q_ir C hm (by decide +kernel) (fun v40 hm => ?_)
  refine q_iconst C (n := 1) (v := 1) (by decide) (by decide +kernel) ?_
  refine q_iadd C (by decide +kernel) ?_
  refine q_iw C hm (by decide +kernel) (fun h41 hm => ?_)
  refine q_iconst C (n := 1) (v := 1) (by decide) (by decide +kernel) ?_
  exact q_riS hm K q_z1 (by decide +kernel)
def m_X12_isPullHere (h : q_H) (a0 : Nat) : Option (Int32 × q_H) :=
  (q_ca 12 h a0 (m_X12_passWord h a0)).bind fun h2 =>
  (q_gi h2 a0 12 11).bind fun v3 =>
  (q_gn h2 a0 12 6).bind fun v4 =>
  (q_gi h2 a0 12 11).bind fun v5 =>
  (q_ai h2 v4 1 v5).bind fun v6 =>
  (q_gn h2 a0 12 5).bind fun v7 =>
  (q_gn h2 a0 12 4).bind fun v8 =>
  (q_gi h2 a0 12 11).bind fun v9 =>
  (q_ai h2 v8 1 v9).bind fun v10 =>
  (q_si h2 v7 1 ((((48 : Int32) * v3) + ((4 : Int32) * v6))) v10).bind fun h11 =>
  (q_ca 12 h11 a0 (m_X12_sum h11 a0)).bind fun (r12, h13) =>
  if r12 = 0 then
    some ((0 : Int32), h13)
  else
    (q_gn h13 a0 12 5).bind fun v15 =>
    (q_gn h13 a0 12 4).bind fun v16 =>
    (q_gi h13 a0 12 11).bind fun v17 =>
    (q_ai h13 v16 1 v17).bind fun v18 =>
    (q_si h13 v15 1 (((((48 : Int32) * v3) + ((4 : Int32) * v6)) + (1 : Int32))) v18).bind fun h19 =>
    (q_gn h19 a0 12 5).bind fun v20 =>
    (q_si h19 v20 1 (((((48 : Int32) * v3) + ((4 : Int32) * v6)) + (2 : Int32))) ((-1 : Int32))).bind fun h21 =>
    (q_ca 12 h21 a0 (m_X12_takesWord h21 a0 ((26982 : Int64)))).bind fun (r22, h23) =>
    if r22 = 0 then
      m_X12_isPullHere_110 h23 a0 ((((48 : Int32) * v3) + ((4 : Int32) * v6)))
    else
      (q_gn h23 a0 12 5).bind fun v25 =>
      (q_gn h23 a0 12 4).bind fun v26 =>
      (q_gi h23 a0 12 11).bind fun v27 =>
      (q_ai h23 v26 1 v27).bind fun v28 =>
      (q_si h23 v25 1 (((((48 : Int32) * v3) + ((4 : Int32) * v6)) + (2 : Int32))) v28).bind fun h29 =>
      (q_ca 12 h29 a0 (m_X12_tested h29 a0)).bind fun (r30, h31) =>
      if r30 = 0 then
        some ((0 : Int32), h31)
      else
        m_X12_isPullHere_110 h31 a0 ((((48 : Int32) * v3) + ((4 : Int32) * v6)))
set_option maxRecDepth 20000 in
set_option maxHeartbeats 1000000 in
theorem c_X12_isPullHere (l : Launch) (base : Nat) (D : va_G) (tc : Nat → ClassId) (sz : Nat) (h : q_H) (a0 : Nat) {r : Int32} {h' : q_H} (hm : m_X12_isPullHere h a0 = some (r, h')) : q_M l yX12_isPullHere cX12_isPullHere 2 (some .boolean) 9 198 0 0 base D tc [.ref a0] sz h (some (.int r)) sz h' := by
  refine q_starti (by decide) (Nat.le_of_ble_eq_true rfl) (fun Γ B K => ?_)
  obtain ⟨C, Rm, -⟩ := B
  have C : q_C Γ cX12_isPullHere RX12 := C
  show q_V Γ sz 0 0 h [(0, .ref a0)] [] 0
  unfold m_X12_isPullHere at hm
  refine q_aload_n C (k4 := 0) 0 rfl (by decide +kernel) ?_
  refine q_vvS C Rm (As := []) (rest := []) Y_X12_passWord Yv_X12_passWord ml_X12_108 (by decide) (by decide) hm (fun h2 e9 => c_X12_passWord _ _ _ _ _ _ _ e9) rfl rfl (Nat.le_of_ble_eq_true rfl) (by decide +kernel) (fun h2 hm => ?_)
  refine q_bipush C (n := 48) (v := 48) (by decide) (by decide +kernel) ?_
  refine q_aload_n C (k4 := 0) 0 rfl (by decide +kernel) ?_
  refine q_geti C fl_12_147 hm (by decide +kernel) (fun v3 hm => ?_)
  refine q_imul C (by decide +kernel) ?_
  refine q_iconst C (n := 4) (v := 4) (by decide) (by decide +kernel) ?_
  refine q_aload_n C (k4 := 0) 0 rfl (by decide +kernel) ?_
  refine q_getn C fl_12_23 hm (by decide +kernel) (fun v4 hm => ?_)
  refine q_aload_n C (k4 := 0) 0 rfl (by decide +kernel) ?_
  refine q_geti C fl_12_147 hm (by decide +kernel) (fun v5 hm => ?_)
  refine q_ir C hm (by decide +kernel) (fun v6 hm => ?_)
  refine q_imul C (by decide +kernel) ?_
  refine q_iadd C (by decide +kernel) ?_
  refine q_istore_n C Rm.1 (k4 := 1) (i := 1) rfl (lv' := [(1, .int ((((48 : Int32) * v3) + ((4 : Int32) * v6)))), (0, .ref a0)]) rfl (by decide) (by decide +kernel) ?_
  refine q_aload_n C (k4 := 0) 1 rfl (by decide +kernel) ?_
  refine q_getn C fl_12_20 hm (by decide +kernel) (fun v7 hm => ?_)
  refine q_iload_n C (k4 := 1) 0 rfl (by decide +kernel) ?_
  refine q_aload_n C (k4 := 0) 1 rfl (by decide +kernel) ?_
  refine q_getn C fl_12_17 hm (by decide +kernel) (fun v8 hm => ?_)
  refine q_aload_n C (k4 := 0) 1 rfl (by decide +kernel) ?_
  refine q_geti C fl_12_147 hm (by decide +kernel) (fun v9 hm => ?_)
  refine q_ir C hm (by decide +kernel) (fun v10 hm => ?_)
  refine q_iw C hm (by decide +kernel) (fun h11 hm => ?_)
  refine q_aload_n C (k4 := 0) 1 rfl (by decide +kernel) ?_
  refine q_viS C Rm (As := []) (rest := []) Y_X12_sum Yv_X12_sum ml_X12_184 (by decide) (by decide) hm (fun r12 h13 e9 => c_X12_sum _ _ _ _ _ _ _ e9) rfl rfl (Nat.le_of_ble_eq_true rfl) (by decide +kernel) (fun r12 h13 hm z14 => ?_)
  refine q_if_ne C (off := 5) 48 hm (by decide +kernel) (by decide) (fun _ hm => ?_) (fun _ hm => ?_)
  · refine q_aload_n C (k4 := 0) 1 rfl (by decide +kernel) ?_
    refine q_getn C fl_12_20 hm (by decide +kernel) (fun v15 hm => ?_)
    refine q_iload_n C (k4 := 1) 0 rfl (by decide +kernel) ?_
    refine q_iconst C (n := 1) (v := 1) (by decide) (by decide +kernel) ?_
    refine q_iadd C (by decide +kernel) ?_
    refine q_aload_n C (k4 := 0) 1 rfl (by decide +kernel) ?_
    refine q_getn C fl_12_17 hm (by decide +kernel) (fun v16 hm => ?_)
    refine q_aload_n C (k4 := 0) 1 rfl (by decide +kernel) ?_
    refine q_geti C fl_12_147 hm (by decide +kernel) (fun v17 hm => ?_)
    refine q_ir C hm (by decide +kernel) (fun v18 hm => ?_)
    refine q_iw C hm (by decide +kernel) (fun h19 hm => ?_)
    refine q_aload_n C (k4 := 0) 1 rfl (by decide +kernel) ?_
    refine q_getn C fl_12_20 hm (by decide +kernel) (fun v20 hm => ?_)
    refine q_iload_n C (k4 := 1) 0 rfl (by decide +kernel) ?_
    refine q_iconst C (n := 2) (v := 2) (by decide) (by decide +kernel) ?_
    refine q_iadd C (by decide +kernel) ?_
    refine q_iconst C (n := (-1)) (v := (-1)) (by decide) (by decide +kernel) ?_
    refine q_iw C hm (by decide +kernel) (fun h21 hm => ?_)
    refine q_aload_n C (k4 := 0) 1 rfl (by decide +kernel) ?_
    refine q_ldc2 C (idx := 211) (v := 26982) (q_m6 125 rfl rfl) (by decide +kernel) ?_
    refine q_viS C Rm (As := [.long ((26982 : Int64))]) (rest := []) Y_X12_takesWord Yv_X12_takesWord ml_X12_213 (by decide) (by decide) hm (fun r22 h23 e9 => c_X12_takesWord _ _ _ _ _ _ _ _ e9) rfl rfl (Nat.le_of_ble_eq_true rfl) (by decide +kernel) (fun r22 h23 hm z24 => ?_)
    refine q_if_eq C (off := 29) 110 hm (by decide +kernel) (by decide) (fun _ hm => ?_) (fun _ hm => ?_)
    · refine q_loc [1, 0] rfl ?_
      exact v_X12_isPullHere_110 C Rm K _ _ _ hm
    · refine q_aload_n C (k4 := 0) 1 rfl (by decide +kernel) ?_
      refine q_getn C fl_12_20 hm (by decide +kernel) (fun v25 hm => ?_)
      refine q_iload_n C (k4 := 1) 0 rfl (by decide +kernel) ?_
      refine q_iconst C (n := 2) (v := 2) (by decide) (by decide +kernel) ?_
      refine q_iadd C (by decide +kernel) ?_
      refine q_aload_n C (k4 := 0) 1 rfl (by decide +kernel) ?_
      refine q_getn C fl_12_17 hm (by decide +kernel) (fun v26 hm => ?_)
      refine q_aload_n C (k4 := 0) 1 rfl (by decide +kernel) ?_
      refine q_geti C fl_12_147 hm (by decide +kernel) (fun v27 hm => ?_)
      refine q_ir C hm (by decide +kernel) (fun v28 hm => ?_)
      refine q_iw C hm (by decide +kernel) (fun h29 hm => ?_)
      refine q_aload_n C (k4 := 0) 1 rfl (by decide +kernel) ?_
      refine q_viS C Rm (As := []) (rest := []) Y_X12_tested Yv_X12_tested ml_X12_216 (by decide) (by decide) hm (fun r30 h31 e9 => c_X12_tested _ _ _ _ _ _ _ e9) rfl rfl (Nat.le_of_ble_eq_true rfl) (by decide +kernel) (fun r30 h31 hm z32 => ?_)
      refine q_if_ne C (off := 5) 110 hm (by decide +kernel) (by decide) (fun _ hm => ?_) (fun _ hm => ?_)
      · refine q_loc [1, 0] rfl ?_
        exact v_X12_isPullHere_110 C Rm K _ _ _ hm
      · refine q_iconst C (n := 0) (v := 0) (by decide) (by decide +kernel) ?_
        exact q_riS hm K q_z0 (by decide +kernel)
  · refine q_iconst C (n := 0) (v := 0) (by decide) (by decide +kernel) ?_
    exact q_riS hm K q_z0 (by decide +kernel)
def m_X12_cellHere (h : q_H) (a0 : Nat) (a1 : Int32) (a2 : Int32) (a3 : Int32) : Option (Int32 × q_H) :=
  (q_ca 12 h a0 (m_X12_numberHere h a0 a2 a3)).bind fun (r1, h2) =>
  if r1 = 0 then
    some ((0 : Int32), h2)
  else
    (q_gn h2 a0 12 7).bind fun v4 =>
    (q_gi h2 a0 12 10).bind fun v5 =>
    (q_si h2 v4 1 a1 v5).bind fun h6 =>
    some ((1 : Int32), h6)
set_option maxRecDepth 20000 in
set_option maxHeartbeats 1000000 in
theorem c_X12_cellHere (l : Launch) (base : Nat) (D : va_G) (tc : Nat → ClassId) (sz : Nat) (h : q_H) (a0 : Nat) (a1 : Int32) (a2 : Int32) (a3 : Int32) {r : Int32} {h' : q_H} (hm : m_X12_cellHere h a0 a1 a2 a3 = some (r, h')) : q_M l yX12_cellHere cX12_cellHere 4 (some .boolean) 2 49 0 0 base D tc [.ref a0, .int a1, .int a2, .int a3] sz h (some (.int r)) sz h' := by
  refine q_starti (by decide) (Nat.le_of_ble_eq_true rfl) (fun Γ B K => ?_)
  obtain ⟨C, Rm, -⟩ := B
  have C : q_C Γ cX12_cellHere RX12 := C
  show q_V Γ sz 0 0 h [(0, .ref a0), (1, .int a1), (2, .int a2), (3, .int a3)] [] 0
  unfold m_X12_cellHere at hm
  refine q_aload_n C (k4 := 0) 0 rfl (by decide +kernel) ?_
  refine q_iload_n C (k4 := 2) 2 rfl (by decide +kernel) ?_
  refine q_iload_n C (k4 := 3) 3 rfl (by decide +kernel) ?_
  refine q_viS C Rm (As := [.int a2, .int a3]) (rest := []) Y_X12_numberHere Yv_X12_numberHere ml_X12_168 (by decide) (by decide) hm (fun r1 h2 e9 => c_X12_numberHere _ _ _ _ _ _ _ _ _ e9) rfl rfl (Nat.le_of_ble_eq_true rfl) (by decide +kernel) (fun r1 h2 hm z3 => ?_)
  refine q_if_ne C (off := 5) 11 hm (by decide +kernel) (by decide) (fun _ hm => ?_) (fun _ hm => ?_)
  · refine q_aload_n C (k4 := 0) 0 rfl (by decide +kernel) ?_
    refine q_getn C fl_12_26 hm (by decide +kernel) (fun v4 hm => ?_)
    refine q_iload_n C (k4 := 1) 1 rfl (by decide +kernel) ?_
    refine q_aload_n C (k4 := 0) 0 rfl (by decide +kernel) ?_
    refine q_geti C fl_12_118 hm (by decide +kernel) (fun v5 hm => ?_)
    refine q_iw C hm (by decide +kernel) (fun h6 hm => ?_)
    refine q_iconst C (n := 1) (v := 1) (by decide) (by decide +kernel) ?_
    exact q_riS hm K q_z1 (by decide +kernel)
  · refine q_iconst C (n := 0) (v := 0) (by decide) (by decide +kernel) ?_
    exact q_riS hm K q_z0 (by decide +kernel)
def m_X12_isRopeHere (h : q_H) (a0 : Nat) (a1 : Int32) : Option (Int32 × q_H) :=
  (q_gn h a0 12 7).bind fun v1 =>
  (q_ai h v1 1 ((0 : Int32))).bind fun v2 =>
  if v2 ≤ 0 then
    (q_ca 12 h a0 (m_X12_passWord h a0)).bind fun h4 =>
    (q_ca 12 h4 a0 (m_X12_cellHere h4 a0 ((1 : Int32)) ((1 : Int32)) ((60 : Int32)))).bind fun (r5, h6) =>
    if r5 = 0 then
      some ((0 : Int32), h6)
    else
      (q_ca 12 h6 a0 (m_X12_cellHere h6 a0 ((2 : Int32)) ((0 : Int32)) ((9 : Int32)))).bind fun (r8, h9) =>
      if r8 = 0 then
        some ((0 : Int32), h9)
      else
        (q_gn h9 a0 12 7).bind fun v11 =>
        (q_si h9 v11 1 ((0 : Int32)) ((1 : Int32))).bind fun h12 =>
        some ((1 : Int32), h12)
  else
    (q_ca 12 h a0 (m_X12_fails h a0 ((4 : Int32)) a1)).bind fun (r13, h14) =>
    some (r13, h14)
set_option maxRecDepth 20000 in
set_option maxHeartbeats 1000000 in
theorem c_X12_isRopeHere (l : Launch) (base : Nat) (D : va_G) (tc : Nat → ClassId) (sz : Nat) (h : q_H) (a0 : Nat) (a1 : Int32) {r : Int32} {h' : q_H} (hm : m_X12_isRopeHere h a0 a1 = some (r, h')) : q_M l yX12_isRopeHere cX12_isRopeHere 2 (some .boolean) 3 72 0 0 base D tc [.ref a0, .int a1] sz h (some (.int r)) sz h' := by
  refine q_starti (by decide) (Nat.le_of_ble_eq_true rfl) (fun Γ B K => ?_)
  obtain ⟨C, Rm, -⟩ := B
  have C : q_C Γ cX12_isRopeHere RX12 := C
  show q_V Γ sz 0 0 h [(0, .ref a0), (1, .int a1)] [] 0
  unfold m_X12_isRopeHere at hm
  refine q_aload_n C (k4 := 0) 0 rfl (by decide +kernel) ?_
  refine q_getn C fl_12_26 hm (by decide +kernel) (fun v1 hm => ?_)
  refine q_iconst C (n := 0) (v := 0) (by decide) (by decide +kernel) ?_
  refine q_ir C hm (by decide +kernel) (fun v2 hm => ?_)
  refine q_if_le C (off := 10) 16 hm (by decide +kernel) (by decide) (fun _ hm => ?_) (fun _ hm => ?_)
  · refine q_aload_n C (k4 := 0) 0 rfl (by decide +kernel) ?_
    refine q_vvS C Rm (As := []) (rest := []) Y_X12_passWord Yv_X12_passWord ml_X12_108 (by decide) (by decide) hm (fun h4 e9 => c_X12_passWord _ _ _ _ _ _ _ e9) rfl rfl (Nat.le_of_ble_eq_true rfl) (by decide +kernel) (fun h4 hm => ?_)
    refine q_aload_n C (k4 := 0) 0 rfl (by decide +kernel) ?_
    refine q_iconst C (n := 1) (v := 1) (by decide) (by decide +kernel) ?_
    refine q_iconst C (n := 1) (v := 1) (by decide) (by decide +kernel) ?_
    refine q_bipush C (n := 60) (v := 60) (by decide) (by decide +kernel) ?_
    refine q_viS C Rm (As := [.int ((1 : Int32)), .int ((1 : Int32)), .int ((60 : Int32))]) (rest := []) Y_X12_cellHere Yv_X12_cellHere ml_X12_219 (by decide) (by decide) hm (fun r5 h6 e9 => c_X12_cellHere _ _ _ _ _ _ _ _ _ _ e9) rfl rfl (Nat.le_of_ble_eq_true rfl) (by decide +kernel) (fun r5 h6 hm z7 => ?_)
    refine q_if_eq C (off := 14) 42 hm (by decide +kernel) (by decide) (fun _ hm => ?_) (fun _ hm => ?_)
    · refine q_iconst C (n := 0) (v := 0) (by decide) (by decide +kernel) ?_
      exact q_riS hm K q_z0 (by decide +kernel)
    · refine q_aload_n C (k4 := 0) 0 rfl (by decide +kernel) ?_
      refine q_iconst C (n := 2) (v := 2) (by decide) (by decide +kernel) ?_
      refine q_iconst C (n := 0) (v := 0) (by decide) (by decide +kernel) ?_
      refine q_bipush C (n := 9) (v := 9) (by decide) (by decide +kernel) ?_
      refine q_viS C Rm (As := [.int ((2 : Int32)), .int ((0 : Int32)), .int ((9 : Int32))]) (rest := []) Y_X12_cellHere Yv_X12_cellHere ml_X12_219 (by decide) (by decide) hm (fun r8 h9 e9 => c_X12_cellHere _ _ _ _ _ _ _ _ _ _ e9) rfl rfl (Nat.le_of_ble_eq_true rfl) (by decide +kernel) (fun r8 h9 hm z10 => ?_)
      refine q_if_ne C (off := 5) 44 hm (by decide +kernel) (by decide) (fun _ hm => ?_) (fun _ hm => ?_)
      · refine q_aload_n C (k4 := 0) 0 rfl (by decide +kernel) ?_
        refine q_getn C fl_12_26 hm (by decide +kernel) (fun v11 hm => ?_)
        refine q_iconst C (n := 0) (v := 0) (by decide) (by decide +kernel) ?_
        refine q_iconst C (n := 1) (v := 1) (by decide) (by decide +kernel) ?_
        refine q_iw C hm (by decide +kernel) (fun h12 hm => ?_)
        refine q_iconst C (n := 1) (v := 1) (by decide) (by decide +kernel) ?_
        exact q_riS hm K q_z1 (by decide +kernel)
      · refine q_iconst C (n := 0) (v := 0) (by decide) (by decide +kernel) ?_
        exact q_riS hm K q_z0 (by decide +kernel)
  · refine q_aload_n C (k4 := 0) 0 rfl (by decide +kernel) ?_
    refine q_iconst C (n := 4) (v := 4) (by decide) (by decide +kernel) ?_
    refine q_iload_n C (k4 := 1) 1 rfl (by decide +kernel) ?_
    refine q_viS C Rm (As := [.int ((4 : Int32)), .int a1]) (rest := []) Y_X12_fails Yv_X12_fails ml_X12_114 (by decide) (by decide) hm (fun r13 h14 e9 => c_X12_fails _ _ _ _ _ _ _ _ _ e9) rfl rfl (Nat.le_of_ble_eq_true rfl) (by decide +kernel) (fun r13 h14 hm z15 => ?_)
    exact q_riS hm K z15 (by decide +kernel)
def m_X12_isPullerHere (h : q_H) (a0 : Nat) (a1 : Int32) : Option (Int32 × q_H) :=
  (q_gn h a0 12 7).bind fun v1 =>
  (q_ai h v1 1 ((3 : Int32))).bind fun v2 =>
  if v2 = (8 : Int32) then
    (q_ca 12 h a0 (m_X12_fails h a0 ((4 : Int32)) a1)).bind fun (r22, h23) =>
    some (r22, h23)
  else
    (q_ca 12 h a0 (m_X12_passWord h a0)).bind fun h4 =>
    (q_gn h4 a0 12 7).bind fun v5 =>
    (q_ai h4 v5 1 ((3 : Int32))).bind fun v6 =>
    (q_ca 12 h4 a0 (m_X12_cellHere h4 a0 (((68 : Int32) + v6)) ((0 : Int32)) ((1 : Int32)))).bind fun (r7, h8) =>
    if r7 = 0 then
      some ((0 : Int32), h8)
    else
      (q_ca 12 h8 a0 (m_X12_cellHere h8 a0 (((52 : Int32) + v6)) ((1 : Int32)) ((40 : Int32)))).bind fun (r10, h11) =>
      if r10 = 0 then
        some ((0 : Int32), h11)
      else
        (q_ca 12 h11 a0 (m_X12_cellHere h11 a0 (((76 : Int32) + v6)) ((0 : Int32)) ((60 : Int32)))).bind fun (r13, h14) =>
        if r13 = 0 then
          some ((0 : Int32), h14)
        else
          (q_ca 12 h14 a0 (m_X12_cellHere h14 a0 (((60 : Int32) + v6)) ((0 : Int32)) ((9 : Int32)))).bind fun (r16, h17) =>
          if r16 = 0 then
            some ((0 : Int32), h17)
          else
            (q_gn h17 a0 12 7).bind fun v19 =>
            (q_ai h17 v19 1 ((3 : Int32))).bind fun v20 =>
            (q_si h17 v19 1 ((3 : Int32)) ((v20 + (1 : Int32)))).bind fun h21 =>
            some ((1 : Int32), h21)
set_option maxRecDepth 20000 in
set_option maxHeartbeats 1000000 in
theorem c_X12_isPullerHere (l : Launch) (base : Nat) (D : va_G) (tc : Nat → ClassId) (sz : Nat) (h : q_H) (a0 : Nat) (a1 : Int32) {r : Int32} {h' : q_H} (hm : m_X12_isPullerHere h a0 a1 = some (r, h')) : q_M l yX12_isPullerHere cX12_isPullerHere 3 (some .boolean) 3 72 0 0 base D tc [.ref a0, .int a1] sz h (some (.int r)) sz h' := by
  refine q_starti (by decide) (Nat.le_of_ble_eq_true rfl) (fun Γ B K => ?_)
  obtain ⟨C, Rm, -⟩ := B
  have C : q_C Γ cX12_isPullerHere RX12 := C
  show q_V Γ sz 0 0 h [(0, .ref a0), (1, .int a1)] [] 0
  unfold m_X12_isPullerHere at hm
  refine q_aload_n C (k4 := 0) 0 rfl (by decide +kernel) ?_
  refine q_getn C fl_12_26 hm (by decide +kernel) (fun v1 hm => ?_)
  refine q_iconst C (n := 3) (v := 3) (by decide) (by decide +kernel) ?_
  refine q_ir C hm (by decide +kernel) (fun v2 hm => ?_)
  refine q_bipush C (n := 8) (v := 8) (by decide) (by decide +kernel) ?_
  refine q_icmp_ne C (off := 10) 18 hm (by decide +kernel) (by decide) (fun _ hm => ?_) (fun _ hm => ?_)
  · refine q_aload_n C (k4 := 0) 0 rfl (by decide +kernel) ?_
    refine q_vvS C Rm (As := []) (rest := []) Y_X12_passWord Yv_X12_passWord ml_X12_108 (by decide) (by decide) hm (fun h4 e9 => c_X12_passWord _ _ _ _ _ _ _ e9) rfl rfl (Nat.le_of_ble_eq_true rfl) (by decide +kernel) (fun h4 hm => ?_)
    refine q_aload_n C (k4 := 0) 0 rfl (by decide +kernel) ?_
    refine q_getn C fl_12_26 hm (by decide +kernel) (fun v5 hm => ?_)
    refine q_iconst C (n := 3) (v := 3) (by decide) (by decide +kernel) ?_
    refine q_ir C hm (by decide +kernel) (fun v6 hm => ?_)
    refine q_istore_n C Rm.1 (k4 := 2) (i := 2) rfl (lv' := [(2, .int v6), (0, .ref a0), (1, .int a1)]) rfl (by decide) (by decide +kernel) ?_
    refine q_aload_n C (k4 := 0) 1 rfl (by decide +kernel) ?_
    refine q_bipush C (n := 68) (v := 68) (by decide) (by decide +kernel) ?_
    refine q_iload_n C (k4 := 2) 0 rfl (by decide +kernel) ?_
    refine q_iadd C (by decide +kernel) ?_
    refine q_iconst C (n := 0) (v := 0) (by decide) (by decide +kernel) ?_
    refine q_iconst C (n := 1) (v := 1) (by decide) (by decide +kernel) ?_
    refine q_viS C Rm (As := [.int (((68 : Int32) + v6)), .int ((0 : Int32)), .int ((1 : Int32))]) (rest := []) Y_X12_cellHere Yv_X12_cellHere ml_X12_219 (by decide) (by decide) hm (fun r7 h8 e9 => c_X12_cellHere _ _ _ _ _ _ _ _ _ _ e9) rfl rfl (Nat.le_of_ble_eq_true rfl) (by decide +kernel) (fun r7 h8 hm z9 => ?_)
    refine q_if_eq C (off := 17) 56 hm (by decide +kernel) (by decide) (fun _ hm => ?_) (fun _ hm => ?_)
    · refine q_iconst C (n := 0) (v := 0) (by decide) (by decide +kernel) ?_
      exact q_riS hm K q_z0 (by decide +kernel)
    · refine q_aload_n C (k4 := 0) 1 rfl (by decide +kernel) ?_
      refine q_bipush C (n := 52) (v := 52) (by decide) (by decide +kernel) ?_
      refine q_iload_n C (k4 := 2) 0 rfl (by decide +kernel) ?_
      refine q_iadd C (by decide +kernel) ?_
      refine q_iconst C (n := 1) (v := 1) (by decide) (by decide +kernel) ?_
      refine q_bipush C (n := 40) (v := 40) (by decide) (by decide +kernel) ?_
      refine q_viS C Rm (As := [.int (((52 : Int32) + v6)), .int ((1 : Int32)), .int ((40 : Int32))]) (rest := []) Y_X12_cellHere Yv_X12_cellHere ml_X12_219 (by decide) (by decide) hm (fun r10 h11 e9 => c_X12_cellHere _ _ _ _ _ _ _ _ _ _ e9) rfl rfl (Nat.le_of_ble_eq_true rfl) (by decide +kernel) (fun r10 h11 hm z12 => ?_)
      refine q_if_ne C (off := 5) 58 hm (by decide +kernel) (by decide) (fun _ hm => ?_) (fun _ hm => ?_)
      · refine q_aload_n C (k4 := 0) 1 rfl (by decide +kernel) ?_
        refine q_bipush C (n := 76) (v := 76) (by decide) (by decide +kernel) ?_
        refine q_iload_n C (k4 := 2) 0 rfl (by decide +kernel) ?_
        refine q_iadd C (by decide +kernel) ?_
        refine q_iconst C (n := 0) (v := 0) (by decide) (by decide +kernel) ?_
        refine q_bipush C (n := 60) (v := 60) (by decide) (by decide +kernel) ?_
        refine q_viS C Rm (As := [.int (((76 : Int32) + v6)), .int ((0 : Int32)), .int ((60 : Int32))]) (rest := []) Y_X12_cellHere Yv_X12_cellHere ml_X12_219 (by decide) (by decide) hm (fun r13 h14 e9 => c_X12_cellHere _ _ _ _ _ _ _ _ _ _ e9) rfl rfl (Nat.le_of_ble_eq_true rfl) (by decide +kernel) (fun r13 h14 hm z15 => ?_)
        refine q_if_eq C (off := 17) 86 hm (by decide +kernel) (by decide) (fun _ hm => ?_) (fun _ hm => ?_)
        · refine q_iconst C (n := 0) (v := 0) (by decide) (by decide +kernel) ?_
          exact q_riS hm K q_z0 (by decide +kernel)
        · refine q_aload_n C (k4 := 0) 1 rfl (by decide +kernel) ?_
          refine q_bipush C (n := 60) (v := 60) (by decide) (by decide +kernel) ?_
          refine q_iload_n C (k4 := 2) 0 rfl (by decide +kernel) ?_
          refine q_iadd C (by decide +kernel) ?_
          refine q_iconst C (n := 0) (v := 0) (by decide) (by decide +kernel) ?_
          refine q_bipush C (n := 9) (v := 9) (by decide) (by decide +kernel) ?_
          refine q_viS C Rm (As := [.int (((60 : Int32) + v6)), .int ((0 : Int32)), .int ((9 : Int32))]) (rest := []) Y_X12_cellHere Yv_X12_cellHere ml_X12_219 (by decide) (by decide) hm (fun r16 h17 e9 => c_X12_cellHere _ _ _ _ _ _ _ _ _ _ e9) rfl rfl (Nat.le_of_ble_eq_true rfl) (by decide +kernel) (fun r16 h17 hm z18 => ?_)
          refine q_if_ne C (off := 5) 88 hm (by decide +kernel) (by decide) (fun _ hm => ?_) (fun _ hm => ?_)
          · refine q_aload_n C (k4 := 0) 1 rfl (by decide +kernel) ?_
            refine q_getn C fl_12_26 hm (by decide +kernel) (fun v19 hm => ?_)
            refine q_iconst C (n := 3) (v := 3) (by decide) (by decide +kernel) ?_
            refine q_dup2 C rfl rfl (by decide +kernel) ?_
            refine q_ir C hm (by decide +kernel) (fun v20 hm => ?_)
            refine q_iconst C (n := 1) (v := 1) (by decide) (by decide +kernel) ?_
            refine q_iadd C (by decide +kernel) ?_
            refine q_iw C hm (by decide +kernel) (fun h21 hm => ?_)
            refine q_iconst C (n := 1) (v := 1) (by decide) (by decide +kernel) ?_
            exact q_riS hm K q_z1 (by decide +kernel)
          · refine q_iconst C (n := 0) (v := 0) (by decide) (by decide +kernel) ?_
            exact q_riS hm K q_z0 (by decide +kernel)
      · refine q_iconst C (n := 0) (v := 0) (by decide) (by decide +kernel) ?_
        exact q_riS hm K q_z0 (by decide +kernel)
  · refine q_aload_n C (k4 := 0) 0 rfl (by decide +kernel) ?_
    refine q_iconst C (n := 4) (v := 4) (by decide) (by decide +kernel) ?_
    refine q_iload_n C (k4 := 1) 1 rfl (by decide +kernel) ?_
    refine q_viS C Rm (As := [.int ((4 : Int32)), .int a1]) (rest := []) Y_X12_fails Yv_X12_fails ml_X12_114 (by decide) (by decide) hm (fun r22 h23 e9 => c_X12_fails _ _ _ _ _ _ _ _ _ e9) rfl rfl (Nat.le_of_ble_eq_true rfl) (by decide +kernel) (fun r22 h23 hm z24 => ?_)
    exact q_riS hm K z24 (by decide +kernel)
def m_X12_isRibbonHere (h : q_H) (a0 : Nat) (a1 : Int32) : Option (Int32 × q_H) :=
  (q_gn h a0 12 7).bind fun v1 =>
  (q_ai h v1 1 ((4 : Int32))).bind fun v2 =>
  if v2 ≤ 0 then
    (q_ca 12 h a0 (m_X12_passWord h a0)).bind fun h4 =>
    (q_gn h4 a0 12 7).bind fun v5 =>
    (q_ai h4 v5 1 ((1 : Int32))).bind fun v6 =>
    (q_ca 12 h4 a0 (m_X12_numberHere h4 a0 ((0 : Int32)) ((((2 : Int32) * v6) - (2 : Int32))))).bind fun (r7, h8) =>
    if r7 = 0 then
      some ((0 : Int32), h8)
    else
      (q_gn h8 a0 12 7).bind fun v10 =>
      (q_si h8 v10 1 ((4 : Int32)) ((1 : Int32))).bind fun h11 =>
      (q_gn h11 a0 12 7).bind fun v12 =>
      (q_gi h11 a0 12 10).bind fun v13 =>
      (q_gn h11 a0 12 7).bind fun v14 =>
      (q_ai h11 v14 1 ((1 : Int32))).bind fun v15 =>
      (q_si h11 v12 1 ((84 : Int32)) (((v13 - v15) + (1 : Int32)))).bind fun h16 =>
      some ((1 : Int32), h16)
  else
    (q_ca 12 h a0 (m_X12_fails h a0 ((4 : Int32)) a1)).bind fun (r17, h18) =>
    some (r17, h18)
set_option maxRecDepth 20000 in
set_option maxHeartbeats 1000000 in
theorem c_X12_isRibbonHere (l : Launch) (base : Nat) (D : va_G) (tc : Nat → ClassId) (sz : Nat) (h : q_H) (a0 : Nat) (a1 : Int32) {r : Int32} {h' : q_H} (hm : m_X12_isRibbonHere h a0 a1 = some (r, h')) : q_M l yX12_isRibbonHere cX12_isRibbonHere 2 (some .boolean) 2 49 0 0 base D tc [.ref a0, .int a1] sz h (some (.int r)) sz h' := by
  refine q_starti (by decide) (Nat.le_of_ble_eq_true rfl) (fun Γ B K => ?_)
  obtain ⟨C, Rm, -⟩ := B
  have C : q_C Γ cX12_isRibbonHere RX12 := C
  show q_V Γ sz 0 0 h [(0, .ref a0), (1, .int a1)] [] 0
  unfold m_X12_isRibbonHere at hm
  refine q_aload_n C (k4 := 0) 0 rfl (by decide +kernel) ?_
  refine q_getn C fl_12_26 hm (by decide +kernel) (fun v1 hm => ?_)
  refine q_iconst C (n := 4) (v := 4) (by decide) (by decide +kernel) ?_
  refine q_ir C hm (by decide +kernel) (fun v2 hm => ?_)
  refine q_if_le C (off := 10) 16 hm (by decide +kernel) (by decide) (fun _ hm => ?_) (fun _ hm => ?_)
  · refine q_aload_n C (k4 := 0) 0 rfl (by decide +kernel) ?_
    refine q_vvS C Rm (As := []) (rest := []) Y_X12_passWord Yv_X12_passWord ml_X12_108 (by decide) (by decide) hm (fun h4 e9 => c_X12_passWord _ _ _ _ _ _ _ e9) rfl rfl (Nat.le_of_ble_eq_true rfl) (by decide +kernel) (fun h4 hm => ?_)
    refine q_aload_n C (k4 := 0) 0 rfl (by decide +kernel) ?_
    refine q_iconst C (n := 0) (v := 0) (by decide) (by decide +kernel) ?_
    refine q_iconst C (n := 2) (v := 2) (by decide) (by decide +kernel) ?_
    refine q_aload_n C (k4 := 0) 0 rfl (by decide +kernel) ?_
    refine q_getn C fl_12_26 hm (by decide +kernel) (fun v5 hm => ?_)
    refine q_iconst C (n := 1) (v := 1) (by decide) (by decide +kernel) ?_
    refine q_ir C hm (by decide +kernel) (fun v6 hm => ?_)
    refine q_imul C (by decide +kernel) ?_
    refine q_iconst C (n := 2) (v := 2) (by decide) (by decide +kernel) ?_
    refine q_isub C (by decide +kernel) ?_
    refine q_viS C Rm (As := [.int ((0 : Int32)), .int ((((2 : Int32) * v6) - (2 : Int32)))]) (rest := []) Y_X12_numberHere Yv_X12_numberHere ml_X12_168 (by decide) (by decide) hm (fun r7 h8 e9 => c_X12_numberHere _ _ _ _ _ _ _ _ _ e9) rfl rfl (Nat.le_of_ble_eq_true rfl) (by decide +kernel) (fun r7 h8 hm z9 => ?_)
    refine q_if_ne C (off := 5) 40 hm (by decide +kernel) (by decide) (fun _ hm => ?_) (fun _ hm => ?_)
    · refine q_aload_n C (k4 := 0) 0 rfl (by decide +kernel) ?_
      refine q_getn C fl_12_26 hm (by decide +kernel) (fun v10 hm => ?_)
      refine q_iconst C (n := 4) (v := 4) (by decide) (by decide +kernel) ?_
      refine q_iconst C (n := 1) (v := 1) (by decide) (by decide +kernel) ?_
      refine q_iw C hm (by decide +kernel) (fun h11 hm => ?_)
      refine q_aload_n C (k4 := 0) 0 rfl (by decide +kernel) ?_
      refine q_getn C fl_12_26 hm (by decide +kernel) (fun v12 hm => ?_)
      refine q_bipush C (n := 84) (v := 84) (by decide) (by decide +kernel) ?_
      refine q_aload_n C (k4 := 0) 0 rfl (by decide +kernel) ?_
      refine q_geti C fl_12_118 hm (by decide +kernel) (fun v13 hm => ?_)
      refine q_aload_n C (k4 := 0) 0 rfl (by decide +kernel) ?_
      refine q_getn C fl_12_26 hm (by decide +kernel) (fun v14 hm => ?_)
      refine q_iconst C (n := 1) (v := 1) (by decide) (by decide +kernel) ?_
      refine q_ir C hm (by decide +kernel) (fun v15 hm => ?_)
      refine q_isub C (by decide +kernel) ?_
      refine q_iconst C (n := 1) (v := 1) (by decide) (by decide +kernel) ?_
      refine q_iadd C (by decide +kernel) ?_
      refine q_iw C hm (by decide +kernel) (fun h16 hm => ?_)
      refine q_iconst C (n := 1) (v := 1) (by decide) (by decide +kernel) ?_
      exact q_riS hm K q_z1 (by decide +kernel)
    · refine q_iconst C (n := 0) (v := 0) (by decide) (by decide +kernel) ?_
      exact q_riS hm K q_z0 (by decide +kernel)
  · refine q_aload_n C (k4 := 0) 0 rfl (by decide +kernel) ?_
    refine q_iconst C (n := 4) (v := 4) (by decide) (by decide +kernel) ?_
    refine q_iload_n C (k4 := 1) 1 rfl (by decide +kernel) ?_
    refine q_viS C Rm (As := [.int ((4 : Int32)), .int a1]) (rest := []) Y_X12_fails Yv_X12_fails ml_X12_114 (by decide) (by decide) hm (fun r17 h18 e9 => c_X12_fails _ _ _ _ _ _ _ _ _ e9) rfl rfl (Nat.le_of_ble_eq_true rfl) (by decide +kernel) (fun r17 h18 hm z19 => ?_)
    exact q_riS hm K z19 (by decide +kernel)
def m_X12_ropeLineHere (h : q_H) (a0 : Nat) (a1 : Int32) : Option (Int32 × q_H) :=
  (q_ca 12 h a0 (m_X12_isWord h a0 ((1919905893 : Int64)))).bind fun (r1, h2) =>
  if r1 = 0 then
    (q_gn h2 a0 12 7).bind fun v4 =>
    (q_ai h2 v4 1 ((0 : Int32))).bind fun v5 =>
    if v5 = 0 then
      (q_ca 12 h2 a0 (m_X12_fails h2 a0 ((4 : Int32)) a1)).bind fun (r15, h16) =>
      some (r15, h16)
    else
      (q_ca 12 h2 a0 (m_X12_isWord h2 a0 ((123649632527730 : Int64)))).bind fun (r6, h7) =>
      if r6 = 0 then
        (q_ca 12 h7 a0 (m_X12_isRibbonHere h7 a0 a1)).bind fun (r9, h10) =>
        some (r9, h10)
      else
        (q_ca 12 h7 a0 (m_X12_isPullerHere h7 a0 a1)).bind fun (r12, h13) =>
        some (r12, h13)
  else
    (q_ca 12 h2 a0 (m_X12_isRopeHere h2 a0 a1)).bind fun (r18, h19) =>
    some (r18, h19)
set_option maxRecDepth 20000 in
set_option maxHeartbeats 1000000 in
theorem c_X12_ropeLineHere (l : Launch) (base : Nat) (D : va_G) (tc : Nat → ClassId) (sz : Nat) (h : q_H) (a0 : Nat) (a1 : Int32) {r : Int32} {h' : q_H} (hm : m_X12_ropeLineHere h a0 a1 = some (r, h')) : q_M l yX12_ropeLineHere cX12_ropeLineHere 2 (some .boolean) 4 94 0 0 base D tc [.ref a0, .int a1] sz h (some (.int r)) sz h' := by
  refine q_starti (by decide) (Nat.le_of_ble_eq_true rfl) (fun Γ B K => ?_)
  obtain ⟨C, Rm, -⟩ := B
  have C : q_C Γ cX12_ropeLineHere RX12 := C
  show q_V Γ sz 0 0 h [(0, .ref a0), (1, .int a1)] [] 0
  unfold m_X12_ropeLineHere at hm
  refine q_aload_n C (k4 := 0) 0 rfl (by decide +kernel) ?_
  refine q_ldc2 C (idx := 223) (v := 1919905893) (q_m6 36 rfl rfl) (by decide +kernel) ?_
  refine q_viS C Rm (As := [.long ((1919905893 : Int64))]) (rest := []) Y_X12_isWord Yv_X12_isWord ml_X12_104 (by decide) (by decide) hm (fun r1 h2 e9 => c_X12_isWord _ _ _ _ _ _ _ _ e9) rfl rfl (Nat.le_of_ble_eq_true rfl) (by decide +kernel) (fun r1 h2 hm z3 => ?_)
  refine q_if_eq C (off := 9) 16 hm (by decide +kernel) (by decide) (fun _ hm => ?_) (fun _ hm => ?_)
  · refine q_aload_n C (k4 := 0) 0 rfl (by decide +kernel) ?_
    refine q_getn C fl_12_26 hm (by decide +kernel) (fun v4 hm => ?_)
    refine q_iconst C (n := 0) (v := 0) (by decide) (by decide +kernel) ?_
    refine q_ir C hm (by decide +kernel) (fun v5 hm => ?_)
    refine q_if_ne C (off := 10) 32 hm (by decide +kernel) (by decide) (fun _ hm => ?_) (fun _ hm => ?_)
    · refine q_aload_n C (k4 := 0) 0 rfl (by decide +kernel) ?_
      refine q_ldc2 C (idx := 125) (v := 123649632527730) (q_m6 45 rfl rfl) (by decide +kernel) ?_
      refine q_viS C Rm (As := [.long ((123649632527730 : Int64))]) (rest := []) Y_X12_isWord Yv_X12_isWord ml_X12_104 (by decide) (by decide) hm (fun r6 h7 e9 => c_X12_isWord _ _ _ _ _ _ _ _ e9) rfl rfl (Nat.le_of_ble_eq_true rfl) (by decide +kernel) (fun r6 h7 hm z8 => ?_)
      refine q_if_eq C (off := 11) 50 hm (by decide +kernel) (by decide) (fun _ hm => ?_) (fun _ hm => ?_)
      · refine q_aload_n C (k4 := 0) 0 rfl (by decide +kernel) ?_
        refine q_iload_n C (k4 := 1) 1 rfl (by decide +kernel) ?_
        refine q_viS C Rm (As := [.int a1]) (rest := []) Y_X12_isRibbonHere Yv_X12_isRibbonHere ml_X12_231 (by decide) (by decide) hm (fun r9 h10 e9 => c_X12_isRibbonHere _ _ _ _ _ _ _ _ e9) rfl rfl (Nat.le_of_ble_eq_true rfl) (by decide +kernel) (fun r9 h10 hm z11 => ?_)
        exact q_riS hm K z11 (by decide +kernel)
      · refine q_aload_n C (k4 := 0) 0 rfl (by decide +kernel) ?_
        refine q_iload_n C (k4 := 1) 1 rfl (by decide +kernel) ?_
        refine q_viS C Rm (As := [.int a1]) (rest := []) Y_X12_isPullerHere Yv_X12_isPullerHere ml_X12_228 (by decide) (by decide) hm (fun r12 h13 e9 => c_X12_isPullerHere _ _ _ _ _ _ _ _ e9) rfl rfl (Nat.le_of_ble_eq_true rfl) (by decide +kernel) (fun r12 h13 hm z14 => ?_)
        refine q_goto C (off := 8) 55 (by decide +kernel) (by decide) ?_
        exact q_riS hm K z14 (by decide +kernel)
    · refine q_aload_n C (k4 := 0) 0 rfl (by decide +kernel) ?_
      refine q_iconst C (n := 4) (v := 4) (by decide) (by decide +kernel) ?_
      refine q_iload_n C (k4 := 1) 1 rfl (by decide +kernel) ?_
      refine q_viS C Rm (As := [.int ((4 : Int32)), .int a1]) (rest := []) Y_X12_fails Yv_X12_fails ml_X12_114 (by decide) (by decide) hm (fun r15 h16 e9 => c_X12_fails _ _ _ _ _ _ _ _ _ e9) rfl rfl (Nat.le_of_ble_eq_true rfl) (by decide +kernel) (fun r15 h16 hm z17 => ?_)
      exact q_riS hm K z17 (by decide +kernel)
  · refine q_aload_n C (k4 := 0) 0 rfl (by decide +kernel) ?_
    refine q_iload_n C (k4 := 1) 1 rfl (by decide +kernel) ?_
    refine q_viS C Rm (As := [.int a1]) (rest := []) Y_X12_isRopeHere Yv_X12_isRopeHere ml_X12_225 (by decide) (by decide) hm (fun r18 h19 e9 => c_X12_isRopeHere _ _ _ _ _ _ _ _ e9) rfl rfl (Nat.le_of_ble_eq_true rfl) (by decide +kernel) (fun r18 h19 hm z20 => ?_)
    exact q_riS hm K z20 (by decide +kernel)
def m_X12_isRopeWord (h : q_H) (a0 : Nat) : Option (Int32 × q_H) :=
  (q_ca 12 h a0 (m_X12_isWord h a0 ((1919905893 : Int64)))).bind fun (r1, h2) =>
  if r1 = 0 then
    (q_ca 12 h2 a0 (m_X12_isWord h2 a0 ((123649632527730 : Int64)))).bind fun (r4, h5) =>
    if r4 = 0 then
      (q_ca 12 h5 a0 (m_X12_isWord h5 a0 ((125796947750766 : Int64)))).bind fun (r7, h8) =>
      if r7 = 0 then
        some ((0 : Int32), h8)
      else
        some ((1 : Int32), h8)
    else
      some ((1 : Int32), h5)
  else
    some ((1 : Int32), h2)
set_option maxRecDepth 20000 in
set_option maxHeartbeats 1000000 in
theorem c_X12_isRopeWord (l : Launch) (base : Nat) (D : va_G) (tc : Nat → ClassId) (sz : Nat) (h : q_H) (a0 : Nat) {r : Int32} {h' : q_H} (hm : m_X12_isRopeWord h a0 = some (r, h')) : q_M l yX12_isRopeWord cX12_isRopeWord 1 (some .boolean) 2 46 0 0 base D tc [.ref a0] sz h (some (.int r)) sz h' := by
  refine q_starti (by decide) (Nat.le_of_ble_eq_true rfl) (fun Γ B K => ?_)
  obtain ⟨C, Rm, -⟩ := B
  have C : q_C Γ cX12_isRopeWord RX12 := C
  show q_V Γ sz 0 0 h [(0, .ref a0)] [] 0
  unfold m_X12_isRopeWord at hm
  refine q_aload_n C (k4 := 0) 0 rfl (by decide +kernel) ?_
  refine q_ldc2 C (idx := 223) (v := 1919905893) (q_m6 36 rfl rfl) (by decide +kernel) ?_
  refine q_viS C Rm (As := [.long ((1919905893 : Int64))]) (rest := []) Y_X12_isWord Yv_X12_isWord ml_X12_104 (by decide) (by decide) hm (fun r1 h2 e9 => c_X12_isWord _ _ _ _ _ _ _ _ e9) rfl rfl (Nat.le_of_ble_eq_true rfl) (by decide +kernel) (fun r1 h2 hm z3 => ?_)
  refine q_if_ne C (off := 23) 30 hm (by decide +kernel) (by decide) (fun _ hm => ?_) (fun _ hm => ?_)
  · refine q_iconst C (n := 1) (v := 1) (by decide) (by decide +kernel) ?_
    refine q_goto C (off := 4) 35 (by decide +kernel) (by decide) ?_
    exact q_riS hm K q_z1 (by decide +kernel)
  · refine q_aload_n C (k4 := 0) 0 rfl (by decide +kernel) ?_
    refine q_ldc2 C (idx := 125) (v := 123649632527730) (q_m6 45 rfl rfl) (by decide +kernel) ?_
    refine q_viS C Rm (As := [.long ((123649632527730 : Int64))]) (rest := []) Y_X12_isWord Yv_X12_isWord ml_X12_104 (by decide) (by decide) hm (fun r4 h5 e9 => c_X12_isWord _ _ _ _ _ _ _ _ e9) rfl rfl (Nat.le_of_ble_eq_true rfl) (by decide +kernel) (fun r4 h5 hm z6 => ?_)
    refine q_if_ne C (off := 13) 30 hm (by decide +kernel) (by decide) (fun _ hm => ?_) (fun _ hm => ?_)
    · refine q_iconst C (n := 1) (v := 1) (by decide) (by decide +kernel) ?_
      refine q_goto C (off := 4) 35 (by decide +kernel) (by decide) ?_
      exact q_riS hm K q_z1 (by decide +kernel)
    · refine q_aload_n C (k4 := 0) 0 rfl (by decide +kernel) ?_
      refine q_ldc2 C (idx := 139) (v := 125796947750766) (q_m6 46 rfl rfl) (by decide +kernel) ?_
      refine q_viS C Rm (As := [.long ((125796947750766 : Int64))]) (rest := []) Y_X12_isWord Yv_X12_isWord ml_X12_104 (by decide) (by decide) hm (fun r7 h8 e9 => c_X12_isWord _ _ _ _ _ _ _ _ e9) rfl rfl (Nat.le_of_ble_eq_true rfl) (by decide +kernel) (fun r7 h8 hm z9 => ?_)
      refine q_if_eq C (off := 7) 34 hm (by decide +kernel) (by decide) (fun _ hm => ?_) (fun _ hm => ?_)
      · refine q_iconst C (n := 0) (v := 0) (by decide) (by decide +kernel) ?_
        exact q_riS hm K q_z0 (by decide +kernel)
      · refine q_iconst C (n := 1) (v := 1) (by decide) (by decide +kernel) ?_
        refine q_goto C (off := 4) 35 (by decide +kernel) (by decide) ?_
        exact q_riS hm K q_z1 (by decide +kernel)
def m_X12_clauseHere_49  (h : q_H) (x0 : Nat) (x1 : Int32) : Option (Int32 × q_H) :=
  (q_ca 12 h x0 (m_X12_fails h x0 ((0 : Int32)) x1)).bind fun (r12, h13) =>
  some (r12, h13)
set_option maxRecDepth 20000 in
set_option maxHeartbeats 1000000 in
theorem v_X12_clauseHere_49 {Γ : q_G} {sz : Nat} {r : Int32} {h' : q_H} (C : q_C Γ cX12_clauseHere RX12) (Rm : q_Rm Γ 3 10 219 0 0)  (K : narrow .boolean (.int r) = .int r → q_K Γ cX12_clauseHere .ireturn sz h' 0 0 [.int r])  : ∀ (h : q_H) (x0 : Nat) (x1 : Int32), m_X12_clauseHere_49 h x0 x1 = some (r, h') → q_V Γ sz 0 0 h [(0, .ref x0), (1, .int x1)] [] 49 := by
  intro h x0 x1 hm
  unfold m_X12_clauseHere_49 at hm
  refine q_aload_n C (k4 := 0) 0 rfl (by decide +kernel) ?_
  refine q_iconst C (n := 0) (v := 0) (by decide) (by decide +kernel) ?_
  refine q_iload_n C (k4 := 1) 1 rfl (by decide +kernel) ?_
  refine q_viS C Rm (As := [.int ((0 : Int32)), .int x1]) (rest := []) Y_X12_fails Yv_X12_fails ml_X12_114 (by decide) (by decide) hm (fun r12 h13 e9 => c_X12_fails _ _ _ _ _ _ _ _ _ e9) rfl rfl (Nat.le_of_ble_eq_true rfl) (by decide +kernel) (fun r12 h13 hm z14 => ?_)
  exact q_riS hm K z14 (by decide +kernel)
def m_X12_clauseHere_71  (h : q_H) (x0 : Nat) (x1 : Int32) (x2 : Int32) (s0 : Int32) (s1 : Int32) : Option (Int32 × q_H) :=
  if s1 = s0 then
    (q_ca 12 h x0 (m_X12_fails h x0 ((4 : Int32)) x1)).bind fun (r24, h25) =>
    some (r24, h25)
  else
    (q_gi h x0 12 14).bind fun v16 =>
    (q_pf h x0 12 14 (.int ((v16 + (1 : Int32))))).bind fun h17 =>
    if x2 = 0 then
      (q_ca 12 h17 x0 (m_X12_isPullHere h17 x0)).bind fun (r18, h19) =>
      some (r18, h19)
    else
      (q_ca 12 h17 x0 (m_X12_ropeLineHere h17 x0 x1)).bind fun (r21, h22) =>
      some (r21, h22)
set_option maxRecDepth 20000 in
set_option maxHeartbeats 1000000 in
theorem v_X12_clauseHere_71 {Γ : q_G} {sz : Nat} {r : Int32} {h' : q_H} (C : q_C Γ cX12_clauseHere RX12) (Rm : q_Rm Γ 3 10 219 0 0)  (K : narrow .boolean (.int r) = .int r → q_K Γ cX12_clauseHere .ireturn sz h' 0 0 [.int r])  : ∀ (h : q_H) (x0 : Nat) (x1 : Int32) (x2 : Int32) (s0 : Int32) (s1 : Int32), m_X12_clauseHere_71 h x0 x1 x2 s0 s1 = some (r, h') → q_V Γ sz 0 0 h [(0, .ref x0), (1, .int x1), (2, .int x2)] [.int s0, .int s1] 71 := by
  intro h x0 x1 x2 s0 s1 hm
  unfold m_X12_clauseHere_71 at hm
  refine q_icmp_ne C (off := 10) 81 hm (by decide +kernel) (by decide) (fun _ hm => ?_) (fun _ hm => ?_)
  · refine q_aload_n C (k4 := 0) 0 rfl (by decide +kernel) ?_
    refine q_dup C rfl (by decide +kernel) ?_
    refine q_geti C fl_12_239 hm (by decide +kernel) (fun v16 hm => ?_)
    refine q_iconst C (n := 1) (v := 1) (by decide) (by decide +kernel) ?_
    refine q_iadd C (by decide +kernel) ?_
    refine q_putf C fl_12_239 hm rfl rfl (by decide +kernel) (fun h17 hm => ?_)
    refine q_iload_n C (k4 := 2) 2 rfl (by decide +kernel) ?_
    refine q_if_eq C (off := 11) 103 hm (by decide +kernel) (by decide) (fun _ hm => ?_) (fun _ hm => ?_)
    · refine q_aload_n C (k4 := 0) 0 rfl (by decide +kernel) ?_
      refine q_viS C Rm (As := []) (rest := []) Y_X12_isPullHere Yv_X12_isPullHere ml_X12_245 (by decide) (by decide) hm (fun r18 h19 e9 => c_X12_isPullHere _ _ _ _ _ _ _ e9) rfl rfl (Nat.le_of_ble_eq_true rfl) (by decide +kernel) (fun r18 h19 hm z20 => ?_)
      exact q_riS hm K z20 (by decide +kernel)
    · refine q_aload_n C (k4 := 0) 0 rfl (by decide +kernel) ?_
      refine q_iload_n C (k4 := 1) 1 rfl (by decide +kernel) ?_
      refine q_viS C Rm (As := [.int x1]) (rest := []) Y_X12_ropeLineHere Yv_X12_ropeLineHere ml_X12_242 (by decide) (by decide) hm (fun r21 h22 e9 => c_X12_ropeLineHere _ _ _ _ _ _ _ _ e9) rfl rfl (Nat.le_of_ble_eq_true rfl) (by decide +kernel) (fun r21 h22 hm z23 => ?_)
      refine q_goto C (off := 7) 107 (by decide +kernel) (by decide) ?_
      exact q_riS hm K z23 (by decide +kernel)
  · refine q_aload_n C (k4 := 0) 0 rfl (by decide +kernel) ?_
    refine q_iconst C (n := 4) (v := 4) (by decide) (by decide +kernel) ?_
    refine q_iload_n C (k4 := 1) 1 rfl (by decide +kernel) ?_
    refine q_viS C Rm (As := [.int ((4 : Int32)), .int x1]) (rest := []) Y_X12_fails Yv_X12_fails ml_X12_114 (by decide) (by decide) hm (fun r24 h25 e9 => c_X12_fails _ _ _ _ _ _ _ _ _ e9) rfl rfl (Nat.le_of_ble_eq_true rfl) (by decide +kernel) (fun r24 h25 hm z26 => ?_)
    exact q_riS hm K z26 (by decide +kernel)
def m_X12_clauseHere_56  (h : q_H) (x0 : Nat) (x1 : Int32) (x2 : Int32) : Option (Int32 × q_H) :=
  (q_gi h x0 12 14).bind fun v15 =>
  if x2 = 0 then
    m_X12_clauseHere_71 h x0 x1 x2 ((12 : Int32)) v15
  else
    m_X12_clauseHere_71 h x0 x1 x2 ((40 : Int32)) v15
set_option maxRecDepth 20000 in
set_option maxHeartbeats 1000000 in
theorem v_X12_clauseHere_56 {Γ : q_G} {sz : Nat} {r : Int32} {h' : q_H} (C : q_C Γ cX12_clauseHere RX12) (Rm : q_Rm Γ 3 10 219 0 0)  (K : narrow .boolean (.int r) = .int r → q_K Γ cX12_clauseHere .ireturn sz h' 0 0 [.int r])  : ∀ (h : q_H) (x0 : Nat) (x1 : Int32) (x2 : Int32), m_X12_clauseHere_56 h x0 x1 x2 = some (r, h') → q_V Γ sz 0 0 h [(0, .ref x0), (1, .int x1), (2, .int x2)] [] 56 := by
  intro h x0 x1 x2 hm
  unfold m_X12_clauseHere_56 at hm
  refine q_aload_n C (k4 := 0) 0 rfl (by decide +kernel) ?_
  refine q_geti C fl_12_239 hm (by decide +kernel) (fun v15 hm => ?_)
  refine q_iload_n C (k4 := 2) 2 rfl (by decide +kernel) ?_
  refine q_if_eq C (off := 8) 69 hm (by decide +kernel) (by decide) (fun _ hm => ?_) (fun _ hm => ?_)
  · refine q_bipush C (n := 12) (v := 12) (by decide) (by decide +kernel) ?_
    exact v_X12_clauseHere_71 C Rm K _ _ _ _ _ _ hm
  · refine q_bipush C (n := 40) (v := 40) (by decide) (by decide +kernel) ?_
    refine q_goto C (off := 5) 71 (by decide +kernel) (by decide) ?_
    exact v_X12_clauseHere_71 C Rm K _ _ _ _ _ _ hm
def m_X12_clauseHere_24  (h : q_H) (x0 : Nat) (x1 : Int32) (s0 : Int32) : Option (Int32 × q_H) :=
  if s0 = 0 then
    (q_ca 12 h x0 (m_X12_isWord h x0 ((1886743660 : Int64)))).bind fun (r6, h7) =>
    if r6 = 0 then
      m_X12_clauseHere_49 h7 x0 x1
    else
      m_X12_clauseHere_56 h7 x0 x1 s0
  else
    (q_ca 12 h x0 (m_X12_isRopeWord h x0)).bind fun (r9, h10) =>
    if r9 = 0 then
      m_X12_clauseHere_49 h10 x0 x1
    else
      m_X12_clauseHere_56 h10 x0 x1 s0
set_option maxRecDepth 20000 in
set_option maxHeartbeats 1000000 in
theorem v_X12_clauseHere_24 {Γ : q_G} {sz : Nat} {r : Int32} {h' : q_H} (C : q_C Γ cX12_clauseHere RX12) (Rm : q_Rm Γ 3 10 219 0 0)  (K : narrow .boolean (.int r) = .int r → q_K Γ cX12_clauseHere .ireturn sz h' 0 0 [.int r])  : ∀ (h : q_H) (x0 : Nat) (x1 : Int32) (s0 : Int32), m_X12_clauseHere_24 h x0 x1 s0 = some (r, h') → q_V Γ sz 0 0 h [(0, .ref x0), (1, .int x1)] [.int s0] 24 := by
  intro h x0 x1 s0 hm
  unfold m_X12_clauseHere_24 at hm
  refine q_istore_n C Rm.1 (k4 := 2) (i := 2) rfl (lv' := [(2, .int s0), (0, .ref x0), (1, .int x1)]) rfl (by decide) (by decide +kernel) ?_
  refine q_iload_n C (k4 := 2) 0 rfl (by decide +kernel) ?_
  refine q_if_eq C (off := 13) 39 hm (by decide +kernel) (by decide) (fun _ hm => ?_) (fun _ hm => ?_)
  · refine q_aload_n C (k4 := 0) 1 rfl (by decide +kernel) ?_
    refine q_ldc2 C (idx := 237) (v := 1886743660) (q_m6 47 rfl rfl) (by decide +kernel) ?_
    refine q_viS C Rm (As := [.long ((1886743660 : Int64))]) (rest := []) Y_X12_isWord Yv_X12_isWord ml_X12_104 (by decide) (by decide) hm (fun r6 h7 e9 => c_X12_isWord _ _ _ _ _ _ _ _ e9) rfl rfl (Nat.le_of_ble_eq_true rfl) (by decide +kernel) (fun r6 h7 hm z8 => ?_)
    refine q_if_ne C (off := 10) 56 hm (by decide +kernel) (by decide) (fun _ hm => ?_) (fun _ hm => ?_)
    · refine q_loc [1, 2, 0] rfl ?_
      exact v_X12_clauseHere_56 C Rm K _ _ _ _ hm
    · refine q_loc [1, 2] rfl ?_
      exact v_X12_clauseHere_49 C Rm K _ _ _ hm
  · refine q_aload_n C (k4 := 0) 1 rfl (by decide +kernel) ?_
    refine q_viS C Rm (As := []) (rest := []) Y_X12_isRopeWord Yv_X12_isRopeWord ml_X12_234 (by decide) (by decide) hm (fun r9 h10 e9 => c_X12_isRopeWord _ _ _ _ _ _ _ e9) rfl rfl (Nat.le_of_ble_eq_true rfl) (by decide +kernel) (fun r9 h10 hm z11 => ?_)
    refine q_if_ne C (off := 23) 56 hm (by decide +kernel) (by decide) (fun _ hm => ?_) (fun _ hm => ?_)
    · refine q_loc [1, 2, 0] rfl ?_
      exact v_X12_clauseHere_56 C Rm K _ _ _ _ hm
    · refine q_goto C (off := 13) 49 (by decide +kernel) (by decide) ?_
      refine q_loc [1, 2] rfl ?_
      exact v_X12_clauseHere_49 C Rm K _ _ _ hm
def m_X12_clauseHere (h : q_H) (a0 : Nat) : Option (Int32 × q_H) :=
  (q_ca 12 h a0 (m_X12_see h a0)).bind fun (r1, h2) =>
  (q_gi h2 a0 12 8).bind fun v4 =>
  (q_gi h2 a0 12 11).bind fun v5 =>
  if v5 = (6 : Int32) then
    m_X12_clauseHere_24 h2 a0 v4 ((1 : Int32))
  else
    m_X12_clauseHere_24 h2 a0 v4 ((0 : Int32))
set_option maxRecDepth 20000 in
set_option maxHeartbeats 1000000 in
theorem c_X12_clauseHere (l : Launch) (base : Nat) (D : va_G) (tc : Nat → ClassId) (sz : Nat) (h : q_H) (a0 : Nat) {r : Int32} {h' : q_H} (hm : m_X12_clauseHere h a0 = some (r, h')) : q_M l yX12_clauseHere cX12_clauseHere 3 (some .boolean) 10 219 0 0 base D tc [.ref a0] sz h (some (.int r)) sz h' := by
  refine q_starti (by decide) (Nat.le_of_ble_eq_true rfl) (fun Γ B K => ?_)
  obtain ⟨C, Rm, -⟩ := B
  have C : q_C Γ cX12_clauseHere RX12 := C
  show q_V Γ sz 0 0 h [(0, .ref a0)] [] 0
  unfold m_X12_clauseHere at hm
  refine q_aload_n C (k4 := 0) 0 rfl (by decide +kernel) ?_
  refine q_viS C Rm (As := []) (rest := []) Y_X12_see Yv_X12_see ml_X12_96 (by decide) (by decide) hm (fun r1 h2 e9 => c_X12_see _ _ _ _ _ _ _ e9) rfl rfl (Nat.le_of_ble_eq_true rfl) (by decide +kernel) (fun r1 h2 hm z3 => ?_)
  refine q_pop C rfl (by decide +kernel) ?_
  refine q_aload_n C (k4 := 0) 0 rfl (by decide +kernel) ?_
  refine q_geti C fl_12_93 hm (by decide +kernel) (fun v4 hm => ?_)
  refine q_istore_n C Rm.1 (k4 := 1) (i := 1) rfl (lv' := [(1, .int v4), (0, .ref a0)]) rfl (by decide) (by decide +kernel) ?_
  refine q_aload_n C (k4 := 0) 1 rfl (by decide +kernel) ?_
  refine q_geti C fl_12_147 hm (by decide +kernel) (fun v5 hm => ?_)
  refine q_bipush C (n := 6) (v := 6) (by decide) (by decide +kernel) ?_
  refine q_icmp_ne C (off := 7) 23 hm (by decide +kernel) (by decide) (fun _ hm => ?_) (fun _ hm => ?_)
  · refine q_iconst C (n := 0) (v := 0) (by decide) (by decide +kernel) ?_
    refine q_loc [1, 0] rfl ?_
    exact v_X12_clauseHere_24 C Rm K _ _ _ _ hm
  · refine q_iconst C (n := 1) (v := 1) (by decide) (by decide +kernel) ?_
    refine q_goto C (off := 4) 24 (by decide +kernel) (by decide) ?_
    refine q_loc [1, 0] rfl ?_
    exact v_X12_clauseHere_24 C Rm K _ _ _ _ hm
def m_X12_readsAll_88  (h : q_H) (x0 : Nat) : Option (Int32 × q_H) :=
  (q_pf h x0 12 1 (.int ((0 : Int32)))).bind fun h26 =>
  (q_gi h26 x0 12 9).bind fun v27 =>
  if v27 = 0 then
    some ((1 : Int32), h26)
  else
    some ((0 : Int32), h26)
set_option maxRecDepth 20000 in
set_option maxHeartbeats 1000000 in
theorem v_X12_readsAll_88 {Γ : q_G} {sz : Nat} {r : Int32} {h' : q_H} (C : q_C Γ cX12_readsAll RX12) (Rm : q_Rm Γ 2 11 241 0 0)  (K : narrow .boolean (.int r) = .int r → q_K Γ cX12_readsAll .ireturn sz h' 0 0 [.int r])  : ∀ (h : q_H) (x0 : Nat), m_X12_readsAll_88 h x0 = some (r, h') → q_V Γ sz 0 0 h [(0, .ref x0)] [] 88 := by
  intro h x0 hm
  unfold m_X12_readsAll_88 at hm
  refine q_aload_n C (k4 := 0) 0 rfl (by decide +kernel) ?_
  refine q_iconst C (n := 0) (v := 0) (by decide) (by decide +kernel) ?_
  refine q_putf C fl_12_83 hm rfl rfl (by decide +kernel) (fun h26 hm => ?_)
  refine q_aload_n C (k4 := 0) 0 rfl (by decide +kernel) ?_
  refine q_geti C fl_12_90 hm (by decide +kernel) (fun v27 hm => ?_)
  refine q_if_ne C (off := 7) 104 hm (by decide +kernel) (by decide) (fun _ hm => ?_) (fun _ hm => ?_)
  · refine q_iconst C (n := 0) (v := 0) (by decide) (by decide +kernel) ?_
    exact q_riS hm K q_z0 (by decide +kernel)
  · refine q_iconst C (n := 1) (v := 1) (by decide) (by decide +kernel) ?_
    refine q_goto C (off := 4) 105 (by decide +kernel) (by decide) ?_
    exact q_riS hm K q_z1 (by decide +kernel)
def m_X12_readsAll_66  (h : q_H) (x0 : Nat) (x1 : Int32) : Option (Int32 × q_H) :=
  if x1 = 0 then
    m_X12_readsAll_88 h x0
  else
    (q_ca 12 h x0 (m_X12_see h x0)).bind fun (r19, h20) =>
    if r19 = (-1 : Int32) then
      m_X12_readsAll_88 h20 x0
    else
      (q_gi h20 x0 12 8).bind fun v22 =>
      (q_ca 12 h20 x0 (m_X12_fails h20 x0 ((0 : Int32)) v22)).bind fun (r23, h24) =>
      m_X12_readsAll_88 h24 x0
set_option maxRecDepth 20000 in
set_option maxHeartbeats 1000000 in
theorem v_X12_readsAll_66 {Γ : q_G} {sz : Nat} {r : Int32} {h' : q_H} (C : q_C Γ cX12_readsAll RX12) (Rm : q_Rm Γ 2 11 241 0 0)  (K : narrow .boolean (.int r) = .int r → q_K Γ cX12_readsAll .ireturn sz h' 0 0 [.int r])  : ∀ (h : q_H) (x0 : Nat) (x1 : Int32), m_X12_readsAll_66 h x0 x1 = some (r, h') → q_V Γ sz 0 0 h [(0, .ref x0), (1, .int x1)] [] 66 := by
  intro h x0 x1 hm
  unfold m_X12_readsAll_66 at hm
  refine q_iload_n C (k4 := 1) 1 rfl (by decide +kernel) ?_
  refine q_if_eq C (off := 21) 88 hm (by decide +kernel) (by decide) (fun _ hm => ?_) (fun _ hm => ?_)
  · refine q_loc [0] rfl ?_
    exact v_X12_readsAll_88 C Rm K _ _ hm
  · refine q_aload_n C (k4 := 0) 0 rfl (by decide +kernel) ?_
    refine q_viS C Rm (As := []) (rest := []) Y_X12_see Yv_X12_see ml_X12_96 (by decide) (by decide) hm (fun r19 h20 e9 => c_X12_see _ _ _ _ _ _ _ e9) rfl rfl (Nat.le_of_ble_eq_true rfl) (by decide +kernel) (fun r19 h20 hm z21 => ?_)
    refine q_iconst C (n := (-1)) (v := (-1)) (by decide) (by decide +kernel) ?_
    refine q_icmp_eq C (off := 13) 88 hm (by decide +kernel) (by decide) (fun _ hm => ?_) (fun _ hm => ?_)
    · refine q_loc [0] rfl ?_
      exact v_X12_readsAll_88 C Rm K _ _ hm
    · refine q_aload_n C (k4 := 0) 0 rfl (by decide +kernel) ?_
      refine q_iconst C (n := 0) (v := 0) (by decide) (by decide +kernel) ?_
      refine q_aload_n C (k4 := 0) 0 rfl (by decide +kernel) ?_
      refine q_geti C fl_12_93 hm (by decide +kernel) (fun v22 hm => ?_)
      refine q_viS C Rm (As := [.int ((0 : Int32)), .int v22]) (rest := []) Y_X12_fails Yv_X12_fails ml_X12_114 (by decide) (by decide) hm (fun r23 h24 e9 => c_X12_fails _ _ _ _ _ _ _ _ _ e9) rfl rfl (Nat.le_of_ble_eq_true rfl) (by decide +kernel) (fun r23 h24 hm z25 => ?_)
      refine q_pop C rfl (by decide +kernel) ?_
      refine q_loc [0] rfl ?_
      exact v_X12_readsAll_88 C Rm K _ _ hm
def m_X12_readsAll_35  : Nat → q_H → Nat → Int32 → Option (Int32 × q_H)
  | 0, _, _, _ => none
  | n + 1, h, x0, x1 =>
    if x1 = 0 then
      m_X12_readsAll_66 h x0 x1
    else
      (q_ca 12 h x0 (m_X12_see h x0)).bind fun (r11, h12) =>
      if r11 = (59 : Int32) then
        (q_gi h12 x0 12 8).bind fun v14 =>
        (q_pf h12 x0 12 8 (.int ((v14 + (1 : Int32))))).bind fun h15 =>
        (q_ca 12 h15 x0 (m_X12_clauseHere h15 x0)).bind fun (r16, h17) =>
        m_X12_readsAll_35 n h17 x0 r16
      else
        m_X12_readsAll_66 h12 x0 x1
set_option maxRecDepth 20000 in
set_option maxHeartbeats 1000000 in
theorem v_X12_readsAll_35 {Γ : q_G} {sz : Nat} {r : Int32} {h' : q_H} (C : q_C Γ cX12_readsAll RX12) (Rm : q_Rm Γ 2 11 241 0 0)  (K : narrow .boolean (.int r) = .int r → q_K Γ cX12_readsAll .ireturn sz h' 0 0 [.int r])  : ∀ (n : Nat) (h : q_H) (x0 : Nat) (x1 : Int32), m_X12_readsAll_35 n h x0 x1 = some (r, h') → q_V Γ sz 0 0 h [(0, .ref x0), (1, .int x1)] [] 35 := by
  intro n
  induction n with
  | zero => intro h x0 x1 hm; cases hm
  | succ n ih =>
    intro h x0 x1 hm
    unfold m_X12_readsAll_35 at hm
    refine q_iload_n C (k4 := 1) 1 rfl (by decide +kernel) ?_
    refine q_if_eq C (off := 30) 66 hm (by decide +kernel) (by decide) (fun _ hm => ?_) (fun _ hm => ?_)
    · exact v_X12_readsAll_66 C Rm K _ _ _ hm
    · refine q_aload_n C (k4 := 0) 0 rfl (by decide +kernel) ?_
      refine q_viS C Rm (As := []) (rest := []) Y_X12_see Yv_X12_see ml_X12_96 (by decide) (by decide) hm (fun r11 h12 e9 => c_X12_see _ _ _ _ _ _ _ e9) rfl rfl (Nat.le_of_ble_eq_true rfl) (by decide +kernel) (fun r11 h12 hm z13 => ?_)
      refine q_bipush C (n := 59) (v := 59) (by decide) (by decide +kernel) ?_
      refine q_icmp_ne C (off := 21) 66 hm (by decide +kernel) (by decide) (fun _ hm => ?_) (fun _ hm => ?_)
      · exact v_X12_readsAll_66 C Rm K _ _ _ hm
      · refine q_aload_n C (k4 := 0) 0 rfl (by decide +kernel) ?_
        refine q_dup C rfl (by decide +kernel) ?_
        refine q_geti C fl_12_93 hm (by decide +kernel) (fun v14 hm => ?_)
        refine q_iconst C (n := 1) (v := 1) (by decide) (by decide +kernel) ?_
        refine q_iadd C (by decide +kernel) ?_
        refine q_putf C fl_12_93 hm rfl rfl (by decide +kernel) (fun h15 hm => ?_)
        refine q_aload_n C (k4 := 0) 0 rfl (by decide +kernel) ?_
        refine q_viS C Rm (As := []) (rest := []) Y_X12_clauseHere Yv_X12_clauseHere ml_X12_248 (by decide) (by decide) hm (fun r16 h17 e9 => c_X12_clauseHere _ _ _ _ _ _ _ e9) rfl rfl (Nat.le_of_ble_eq_true rfl) (by decide +kernel) (fun r16 h17 hm z18 => ?_)
        refine q_istore_n C Rm.1 (k4 := 1) (i := 1) rfl (lv' := [(1, .int r16), (0, .ref x0)]) rfl (by decide) (by decide +kernel) ?_
        refine q_goto C (off := -28) 35 (by decide +kernel) (by decide) ?_
        refine q_loc [1, 0] rfl ?_
        exact ih _ _ _ hm
def m_X12_readsAll (h : q_H) (a0 : Nat) : Option (Int32 × q_H) :=
  (q_gn h a0 12 4).bind fun v1 =>
  (q_gi h a0 12 11).bind fun v2 =>
  (q_si h v1 1 v2 ((0 : Int32))).bind fun h3 =>
  (q_pf h3 a0 12 14 (.int ((0 : Int32)))).bind fun h4 =>
  (q_pf h4 a0 12 8 (.int ((0 : Int32)))).bind fun h5 =>
  (q_pf h5 a0 12 9 (.int ((0 : Int32)))).bind fun h6 =>
  (q_pf h6 a0 12 12 (.int ((0 : Int32)))).bind fun h7 =>
  (q_ca 12 h7 a0 (m_X12_clauseHere h7 a0)).bind fun (r8, h9) =>
  m_X12_readsAll_35 q_fu h9 a0 r8
set_option maxRecDepth 20000 in
set_option maxHeartbeats 1000000 in
theorem c_X12_readsAll (l : Launch) (base : Nat) (D : va_G) (tc : Nat → ClassId) (sz : Nat) (h : q_H) (a0 : Nat) {r : Int32} {h' : q_H} (hm : m_X12_readsAll h a0 = some (r, h')) : q_M l yX12_readsAll cX12_readsAll 2 (some .boolean) 11 241 0 0 base D tc [.ref a0] sz h (some (.int r)) sz h' := by
  refine q_starti (by decide) (Nat.le_of_ble_eq_true rfl) (fun Γ B K => ?_)
  obtain ⟨C, Rm, -⟩ := B
  have C : q_C Γ cX12_readsAll RX12 := C
  show q_V Γ sz 0 0 h [(0, .ref a0)] [] 0
  unfold m_X12_readsAll at hm
  refine q_aload_n C (k4 := 0) 0 rfl (by decide +kernel) ?_
  refine q_getn C fl_12_17 hm (by decide +kernel) (fun v1 hm => ?_)
  refine q_aload_n C (k4 := 0) 0 rfl (by decide +kernel) ?_
  refine q_geti C fl_12_147 hm (by decide +kernel) (fun v2 hm => ?_)
  refine q_iconst C (n := 0) (v := 0) (by decide) (by decide +kernel) ?_
  refine q_iw C hm (by decide +kernel) (fun h3 hm => ?_)
  refine q_aload_n C (k4 := 0) 0 rfl (by decide +kernel) ?_
  refine q_iconst C (n := 0) (v := 0) (by decide) (by decide +kernel) ?_
  refine q_putf C fl_12_239 hm rfl rfl (by decide +kernel) (fun h4 hm => ?_)
  refine q_aload_n C (k4 := 0) 0 rfl (by decide +kernel) ?_
  refine q_iconst C (n := 0) (v := 0) (by decide) (by decide +kernel) ?_
  refine q_putf C fl_12_93 hm rfl rfl (by decide +kernel) (fun h5 hm => ?_)
  refine q_aload_n C (k4 := 0) 0 rfl (by decide +kernel) ?_
  refine q_iconst C (n := 0) (v := 0) (by decide) (by decide +kernel) ?_
  refine q_putf C fl_12_90 hm rfl rfl (by decide +kernel) (fun h6 hm => ?_)
  refine q_aload_n C (k4 := 0) 0 rfl (by decide +kernel) ?_
  refine q_iconst C (n := 0) (v := 0) (by decide) (by decide +kernel) ?_
  refine q_putf C fl_12_150 hm rfl rfl (by decide +kernel) (fun h7 hm => ?_)
  refine q_aload_n C (k4 := 0) 0 rfl (by decide +kernel) ?_
  refine q_viS C Rm (As := []) (rest := []) Y_X12_clauseHere Yv_X12_clauseHere ml_X12_248 (by decide) (by decide) hm (fun r8 h9 e9 => c_X12_clauseHere _ _ _ _ _ _ _ e9) rfl rfl (Nat.le_of_ble_eq_true rfl) (by decide +kernel) (fun r8 h9 hm z10 => ?_)
  refine q_istore_n C Rm.1 (k4 := 1) (i := 1) rfl (lv' := [(1, .int r8), (0, .ref a0)]) rfl (by decide) (by decide +kernel) ?_
  refine q_loc [1, 0] rfl ?_
  exact v_X12_readsAll_35 C Rm K _ _ _ _ hm
def m_X12_rule (h : q_H) (a0 : Nat) : Option (Int32 × q_H) :=
  (q_gi h a0 12 2).bind fun v1 =>
  if v1 = (6 : Int32) then
    some ((-1 : Int32), h)
  else
    (q_gi h a0 12 2).bind fun v2 =>
    (q_pf h a0 12 11 (.int v2)).bind fun h3 =>
    (q_gn h3 a0 12 6).bind fun v4 =>
    (q_gi h3 a0 12 11).bind fun v5 =>
    (q_si h3 v4 1 v5 ((0 : Int32))).bind fun h6 =>
    (q_ca 12 h6 a0 (m_X12_readsAll h6 a0)).bind fun (r7, h8) =>
    if r7 = 0 then
      (q_gi h8 a0 12 9).bind fun v13 =>
      some (((-2 : Int32) - v13), h8)
    else
      (q_gi h8 a0 12 2).bind fun v10 =>
      (q_pf h8 a0 12 2 (.int ((v10 + (1 : Int32))))).bind fun h11 =>
      (q_gi h11 a0 12 2).bind fun v12 =>
      some ((v12 - (1 : Int32)), h11)
set_option maxRecDepth 20000 in
set_option maxHeartbeats 1000000 in
theorem c_X12_rule (l : Launch) (base : Nat) (D : va_G) (tc : Nat → ClassId) (sz : Nat) (h : q_H) (a0 : Nat) {r : Int32} {h' : q_H} (hm : m_X12_rule h a0 = some (r, h')) : q_M l yX12_rule cX12_rule 1 (some .int) 12 262 0 0 base D tc [.ref a0] sz h (some (.int r)) sz h' := by
  refine q_starti (by decide) (Nat.le_of_ble_eq_true rfl) (fun Γ B K => ?_)
  obtain ⟨C, Rm, -⟩ := B
  have C : q_C Γ cX12_rule RX12 := C
  show q_V Γ sz 0 0 h [(0, .ref a0)] [] 0
  unfold m_X12_rule at hm
  refine q_aload_n C (k4 := 0) 0 rfl (by decide +kernel) ?_
  refine q_geti C fl_12_251 hm (by decide +kernel) (fun v1 hm => ?_)
  refine q_bipush C (n := 6) (v := 6) (by decide) (by decide +kernel) ?_
  refine q_icmp_ne C (off := 5) 11 hm (by decide +kernel) (by decide) (fun _ hm => ?_) (fun _ hm => ?_)
  · refine q_aload_n C (k4 := 0) 0 rfl (by decide +kernel) ?_
    refine q_aload_n C (k4 := 0) 0 rfl (by decide +kernel) ?_
    refine q_geti C fl_12_251 hm (by decide +kernel) (fun v2 hm => ?_)
    refine q_putf C fl_12_147 hm rfl rfl (by decide +kernel) (fun h3 hm => ?_)
    refine q_aload_n C (k4 := 0) 0 rfl (by decide +kernel) ?_
    refine q_getn C fl_12_23 hm (by decide +kernel) (fun v4 hm => ?_)
    refine q_aload_n C (k4 := 0) 0 rfl (by decide +kernel) ?_
    refine q_geti C fl_12_147 hm (by decide +kernel) (fun v5 hm => ?_)
    refine q_iconst C (n := 0) (v := 0) (by decide) (by decide +kernel) ?_
    refine q_iw C hm (by decide +kernel) (fun h6 hm => ?_)
    refine q_aload_n C (k4 := 0) 0 rfl (by decide +kernel) ?_
    refine q_viS C Rm (As := []) (rest := []) Y_X12_readsAll Yv_X12_readsAll ml_X12_254 (by decide) (by decide) hm (fun r7 h8 e9 => c_X12_readsAll _ _ _ _ _ _ _ e9) rfl rfl (Nat.le_of_ble_eq_true rfl) (by decide +kernel) (fun r7 h8 hm z9 => ?_)
    refine q_if_ne C (off := 11) 44 hm (by decide +kernel) (by decide) (fun _ hm => ?_) (fun _ hm => ?_)
    · refine q_aload_n C (k4 := 0) 0 rfl (by decide +kernel) ?_
      refine q_dup C rfl (by decide +kernel) ?_
      refine q_geti C fl_12_251 hm (by decide +kernel) (fun v10 hm => ?_)
      refine q_iconst C (n := 1) (v := 1) (by decide) (by decide +kernel) ?_
      refine q_iadd C (by decide +kernel) ?_
      refine q_putf C fl_12_251 hm rfl rfl (by decide +kernel) (fun h11 hm => ?_)
      refine q_aload_n C (k4 := 0) 0 rfl (by decide +kernel) ?_
      refine q_geti C fl_12_251 hm (by decide +kernel) (fun v12 hm => ?_)
      refine q_iconst C (n := 1) (v := 1) (by decide) (by decide +kernel) ?_
      refine q_isub C (by decide +kernel) ?_
      exact q_riS hm K rfl (by decide +kernel)
    · refine q_bipush C (n := (-2)) (v := (-2)) (by decide) (by decide +kernel) ?_
      refine q_aload_n C (k4 := 0) 0 rfl (by decide +kernel) ?_
      refine q_geti C fl_12_90 hm (by decide +kernel) (fun v13 hm => ?_)
      refine q_isub C (by decide +kernel) ?_
      exact q_riS hm K rfl (by decide +kernel)
  · refine q_iconst C (n := (-1)) (v := (-1)) (by decide) (by decide +kernel) ?_
    exact q_riS hm K rfl (by decide +kernel)
def m_X12_begins_103 (k24 : q_H → Nat → Int32 → Option q_H) (k63 : q_H → Nat → Int32 → Int32 → Int32 → Option q_H) (h : q_H) (x0 : Nat) (x1 : Int32) (x2 : Int32) (x3 : Int32) (s0 : Int32) (s1 : Int32) (s2 : Int32) (s3 : Nat) : Option q_H :=
  (q_si h s3 1 s2 ((s1 + s0))).bind fun h27 =>
  k63 h27 x0 x1 x2 ((x3 + (1 : Int32)))
set_option maxRecDepth 20000 in
set_option maxHeartbeats 1000000 in
theorem v_X12_begins_103 {Γ : q_G} {sz : Nat} {h' : q_H} (C : q_C Γ cX12_begins RX12) (Rm : q_Rm Γ 4 0 0 0 0) {k24 : q_H → Nat → Int32 → Option q_H} {k63 : q_H → Nat → Int32 → Int32 → Int32 → Option q_H} (K : q_K Γ cX12_begins .return_ sz h' 0 0 []) (hk24 : ∀ (h : q_H) (x0 : Nat) (x1 : Int32), k24 h x0 x1 = some h' → q_V Γ sz 0 0 h [(0, .ref x0), (1, .int x1)] [] 24) (hk63 : ∀ (h : q_H) (x0 : Nat) (x1 : Int32) (x2 : Int32) (x3 : Int32), k63 h x0 x1 x2 x3 = some h' → q_V Γ sz 0 0 h [(0, .ref x0), (1, .int x1), (2, .int x2), (3, .int x3)] [] 63) : ∀ (h : q_H) (x0 : Nat) (x1 : Int32) (x2 : Int32) (x3 : Int32) (s0 : Int32) (s1 : Int32) (s2 : Int32) (s3 : Nat), m_X12_begins_103 k24 k63 h x0 x1 x2 x3 s0 s1 s2 s3 = some h' → q_V Γ sz 0 0 h [(0, .ref x0), (1, .int x1), (2, .int x2), (3, .int x3)] [.int s0, .int s1, .int s2, .ref s3] 103 := by
  intro h x0 x1 x2 x3 s0 s1 s2 s3 hm
  unfold m_X12_begins_103 at hm
  refine q_iadd C (by decide +kernel) ?_
  refine q_iw C hm (by decide +kernel) (fun h27 hm => ?_)
  refine q_iinc C Rm.1 (i := 3) (n := 1) (v := (x3 + (1 : Int32))) 3 rfl (q_inc _ (by decide)) (lv' := [(3, .int ((x3 + (1 : Int32)))), (0, .ref x0), (1, .int x1), (2, .int x2)]) rfl (by decide) (by decide +kernel) ?_
  refine q_goto C (off := -45) 63 (by decide +kernel) (by decide) ?_
  refine q_loc [1, 2, 3, 0] rfl ?_
  exact hk63 _ _ _ _ _ hm
def m_X12_begins_63 (k24 : q_H → Nat → Int32 → Option q_H) : Nat → q_H → Nat → Int32 → Int32 → Int32 → Option q_H
  | 0, _, _, _, _, _ => none
  | n + 1, h, x0, x1, x2, x3 =>
    if x1 ≤ x3 then
      (q_gn h x0 12 20).bind fun v13 =>
      (q_gn h x0 12 20).bind fun v14 =>
      (q_ai h v14 1 (((76 : Int32) + x1))).bind fun v15 =>
      (q_si h v13 1 ((x2 + (2 : Int32))) v15).bind fun h16 =>
      (q_gn h16 x0 12 20).bind fun v17 =>
      (q_si h16 v17 1 ((x2 + (3 : Int32))) ((1 : Int32))).bind fun h18 =>
      (q_gn h18 x0 12 20).bind fun v19 =>
      (q_si h18 v19 1 ((x2 + (4 : Int32))) ((0 : Int32))).bind fun h20 =>
      k24 h20 x0 ((x1 + (1 : Int32)))
    else
      (q_gn h x0 12 20).bind fun v21 =>
      (q_ai h v21 1 ((x2 + (1 : Int32)))).bind fun v22 =>
      (q_gn h x0 12 20).bind fun v23 =>
      (q_ai h v23 1 (((68 : Int32) + x3))).bind fun v24 =>
      (q_gn h x0 12 20).bind fun v25 =>
      (q_ai h v25 1 (((68 : Int32) + x1))).bind fun v26 =>
      if v24 = v26 then
        m_X12_begins_103 k24 (m_X12_begins_63 k24 n) h x0 x1 x2 x3 ((1 : Int32)) v22 ((x2 + (1 : Int32))) v21
      else
        m_X12_begins_103 k24 (m_X12_begins_63 k24 n) h x0 x1 x2 x3 ((0 : Int32)) v22 ((x2 + (1 : Int32))) v21
set_option maxRecDepth 20000 in
set_option maxHeartbeats 1000000 in
theorem v_X12_begins_63 {Γ : q_G} {sz : Nat} {h' : q_H} (C : q_C Γ cX12_begins RX12) (Rm : q_Rm Γ 4 0 0 0 0) {k24 : q_H → Nat → Int32 → Option q_H} (K : q_K Γ cX12_begins .return_ sz h' 0 0 []) (hk24 : ∀ (h : q_H) (x0 : Nat) (x1 : Int32), k24 h x0 x1 = some h' → q_V Γ sz 0 0 h [(0, .ref x0), (1, .int x1)] [] 24) : ∀ (n : Nat) (h : q_H) (x0 : Nat) (x1 : Int32) (x2 : Int32) (x3 : Int32), m_X12_begins_63 k24 n h x0 x1 x2 x3 = some h' → q_V Γ sz 0 0 h [(0, .ref x0), (1, .int x1), (2, .int x2), (3, .int x3)] [] 63 := by
  intro n
  induction n with
  | zero => intro h x0 x1 x2 x3 hm; cases hm
  | succ n ih =>
    intro h x0 x1 x2 x3 hm
    unfold m_X12_begins_63 at hm
    refine q_iload_n C (k4 := 3) 3 rfl (by decide +kernel) ?_
    refine q_iload_n C (k4 := 1) 1 rfl (by decide +kernel) ?_
    refine q_icmp_ge C (off := 46) 111 hm (by decide +kernel) (by decide) (fun _ hm => ?_) (fun _ hm => ?_)
    · refine q_aload_n C (k4 := 0) 0 rfl (by decide +kernel) ?_
      refine q_getn C fl_12_39 hm (by decide +kernel) (fun v13 hm => ?_)
      refine q_iload_n C (k4 := 2) 2 rfl (by decide +kernel) ?_
      refine q_iconst C (n := 2) (v := 2) (by decide) (by decide +kernel) ?_
      refine q_iadd C (by decide +kernel) ?_
      refine q_aload_n C (k4 := 0) 0 rfl (by decide +kernel) ?_
      refine q_getn C fl_12_39 hm (by decide +kernel) (fun v14 hm => ?_)
      refine q_bipush C (n := 76) (v := 76) (by decide) (by decide +kernel) ?_
      refine q_iload_n C (k4 := 1) 1 rfl (by decide +kernel) ?_
      refine q_iadd C (by decide +kernel) ?_
      refine q_ir C hm (by decide +kernel) (fun v15 hm => ?_)
      refine q_iw C hm (by decide +kernel) (fun h16 hm => ?_)
      refine q_aload_n C (k4 := 0) 0 rfl (by decide +kernel) ?_
      refine q_getn C fl_12_39 hm (by decide +kernel) (fun v17 hm => ?_)
      refine q_iload_n C (k4 := 2) 2 rfl (by decide +kernel) ?_
      refine q_iconst C (n := 3) (v := 3) (by decide) (by decide +kernel) ?_
      refine q_iadd C (by decide +kernel) ?_
      refine q_iconst C (n := 1) (v := 1) (by decide) (by decide +kernel) ?_
      refine q_iw C hm (by decide +kernel) (fun h18 hm => ?_)
      refine q_aload_n C (k4 := 0) 0 rfl (by decide +kernel) ?_
      refine q_getn C fl_12_39 hm (by decide +kernel) (fun v19 hm => ?_)
      refine q_iload_n C (k4 := 2) 2 rfl (by decide +kernel) ?_
      refine q_iconst C (n := 4) (v := 4) (by decide) (by decide +kernel) ?_
      refine q_iadd C (by decide +kernel) ?_
      refine q_iconst C (n := 0) (v := 0) (by decide) (by decide +kernel) ?_
      refine q_iw C hm (by decide +kernel) (fun h20 hm => ?_)
      refine q_iinc C Rm.1 (i := 1) (n := 1) (v := (x1 + (1 : Int32))) 1 rfl (q_inc _ (by decide)) (lv' := [(1, .int ((x1 + (1 : Int32)))), (0, .ref x0), (2, .int x2), (3, .int x3)]) rfl (by decide) (by decide +kernel) ?_
      refine q_goto C (off := -125) 24 (by decide +kernel) (by decide) ?_
      refine q_loc [1, 0] rfl ?_
      exact hk24 _ _ _ hm
    · refine q_aload_n C (k4 := 0) 0 rfl (by decide +kernel) ?_
      refine q_getn C fl_12_39 hm (by decide +kernel) (fun v21 hm => ?_)
      refine q_iload_n C (k4 := 2) 2 rfl (by decide +kernel) ?_
      refine q_iconst C (n := 1) (v := 1) (by decide) (by decide +kernel) ?_
      refine q_iadd C (by decide +kernel) ?_
      refine q_dup2 C rfl rfl (by decide +kernel) ?_
      refine q_ir C hm (by decide +kernel) (fun v22 hm => ?_)
      refine q_aload_n C (k4 := 0) 0 rfl (by decide +kernel) ?_
      refine q_getn C fl_12_39 hm (by decide +kernel) (fun v23 hm => ?_)
      refine q_bipush C (n := 68) (v := 68) (by decide) (by decide +kernel) ?_
      refine q_iload_n C (k4 := 3) 3 rfl (by decide +kernel) ?_
      refine q_iadd C (by decide +kernel) ?_
      refine q_ir C hm (by decide +kernel) (fun v24 hm => ?_)
      refine q_aload_n C (k4 := 0) 0 rfl (by decide +kernel) ?_
      refine q_getn C fl_12_39 hm (by decide +kernel) (fun v25 hm => ?_)
      refine q_bipush C (n := 68) (v := 68) (by decide) (by decide +kernel) ?_
      refine q_iload_n C (k4 := 1) 1 rfl (by decide +kernel) ?_
      refine q_iadd C (by decide +kernel) ?_
      refine q_ir C hm (by decide +kernel) (fun v26 hm => ?_)
      refine q_icmp_ne C (off := 7) 102 hm (by decide +kernel) (by decide) (fun _ hm => ?_) (fun _ hm => ?_)
      · refine q_iconst C (n := 0) (v := 0) (by decide) (by decide +kernel) ?_
        exact v_X12_begins_103 C Rm K hk24 ih _ _ _ _ _ _ _ _ _ hm
      · refine q_iconst C (n := 1) (v := 1) (by decide) (by decide +kernel) ?_
        refine q_goto C (off := 4) 103 (by decide +kernel) (by decide) ?_
        exact v_X12_begins_103 C Rm K hk24 ih _ _ _ _ _ _ _ _ _ hm
def m_X12_begins_24  : Nat → q_H → Nat → Int32 → Option q_H
  | 0, _, _, _ => none
  | n + 1, h, x0, x1 =>
    if (8 : Int32) ≤ x1 then
      some h
    else
      (q_gn h x0 12 20).bind fun v7 =>
      (q_gn h x0 12 20).bind fun v8 =>
      (q_ai h v8 1 (((68 : Int32) + x1))).bind fun v9 =>
      (q_si h v7 1 (((12 : Int32) + ((5 : Int32) * x1))) v9).bind fun h10 =>
      (q_gn h10 x0 12 20).bind fun v11 =>
      (q_si h10 v11 1 ((((12 : Int32) + ((5 : Int32) * x1)) + (1 : Int32))) ((0 : Int32))).bind fun h12 =>
      m_X12_begins_63 (m_X12_begins_24 n) q_fu h12 x0 x1 (((12 : Int32) + ((5 : Int32) * x1))) ((0 : Int32))
set_option maxRecDepth 20000 in
set_option maxHeartbeats 1000000 in
theorem v_X12_begins_24 {Γ : q_G} {sz : Nat} {h' : q_H} (C : q_C Γ cX12_begins RX12) (Rm : q_Rm Γ 4 0 0 0 0)  (K : q_K Γ cX12_begins .return_ sz h' 0 0 [])  : ∀ (n : Nat) (h : q_H) (x0 : Nat) (x1 : Int32), m_X12_begins_24 n h x0 x1 = some h' → q_V Γ sz 0 0 h [(0, .ref x0), (1, .int x1)] [] 24 := by
  intro n
  induction n with
  | zero => intro h x0 x1 hm; cases hm
  | succ n ih =>
    intro h x0 x1 hm
    unfold m_X12_begins_24 at hm
    refine q_iload_n C (k4 := 1) 1 rfl (by decide +kernel) ?_
    refine q_bipush C (n := 8) (v := 8) (by decide) (by decide +kernel) ?_
    refine q_icmp_ge C (off := 125) 152 hm (by decide +kernel) (by decide) (fun _ hm => ?_) (fun _ hm => ?_)
    · exact q_rvS hm K (by decide +kernel)
    · refine q_bipush C (n := 12) (v := 12) (by decide) (by decide +kernel) ?_
      refine q_iconst C (n := 5) (v := 5) (by decide) (by decide +kernel) ?_
      refine q_iload_n C (k4 := 1) 1 rfl (by decide +kernel) ?_
      refine q_imul C (by decide +kernel) ?_
      refine q_iadd C (by decide +kernel) ?_
      refine q_istore_n C Rm.1 (k4 := 2) (i := 2) rfl (lv' := [(2, .int (((12 : Int32) + ((5 : Int32) * x1)))), (0, .ref x0), (1, .int x1)]) rfl (by decide) (by decide +kernel) ?_
      refine q_aload_n C (k4 := 0) 1 rfl (by decide +kernel) ?_
      refine q_getn C fl_12_39 hm (by decide +kernel) (fun v7 hm => ?_)
      refine q_iload_n C (k4 := 2) 0 rfl (by decide +kernel) ?_
      refine q_aload_n C (k4 := 0) 1 rfl (by decide +kernel) ?_
      refine q_getn C fl_12_39 hm (by decide +kernel) (fun v8 hm => ?_)
      refine q_bipush C (n := 68) (v := 68) (by decide) (by decide +kernel) ?_
      refine q_iload_n C (k4 := 1) 2 rfl (by decide +kernel) ?_
      refine q_iadd C (by decide +kernel) ?_
      refine q_ir C hm (by decide +kernel) (fun v9 hm => ?_)
      refine q_iw C hm (by decide +kernel) (fun h10 hm => ?_)
      refine q_aload_n C (k4 := 0) 1 rfl (by decide +kernel) ?_
      refine q_getn C fl_12_39 hm (by decide +kernel) (fun v11 hm => ?_)
      refine q_iload_n C (k4 := 2) 0 rfl (by decide +kernel) ?_
      refine q_iconst C (n := 1) (v := 1) (by decide) (by decide +kernel) ?_
      refine q_iadd C (by decide +kernel) ?_
      refine q_iconst C (n := 0) (v := 0) (by decide) (by decide +kernel) ?_
      refine q_iw C hm (by decide +kernel) (fun h12 hm => ?_)
      refine q_iconst C (n := 0) (v := 0) (by decide) (by decide +kernel) ?_
      refine q_istore_n C Rm.1 (k4 := 3) (i := 3) rfl (lv' := [(3, .int ((0 : Int32))), (2, .int (((12 : Int32) + ((5 : Int32) * x1)))), (0, .ref x0), (1, .int x1)]) rfl (by decide) (by decide +kernel) ?_
      refine q_loc [2, 3, 1, 0] rfl ?_
      exact v_X12_begins_63 C Rm K ih _ _ _ _ _ _ hm
def m_X12_begins (h : q_H) (a0 : Nat) : Option q_H :=
  (q_gn h a0 12 20).bind fun v1 =>
  (q_si h v1 1 ((10 : Int32)) ((0 : Int32))).bind fun h2 =>
  (q_gn h2 a0 12 20).bind fun v3 =>
  (q_gn h2 a0 12 20).bind fun v4 =>
  (q_ai h2 v4 1 ((84 : Int32))).bind fun v5 =>
  (q_si h2 v3 1 ((11 : Int32)) v5).bind fun h6 =>
  m_X12_begins_24 q_fu h6 a0 ((0 : Int32))
set_option maxRecDepth 20000 in
set_option maxHeartbeats 1000000 in
theorem c_X12_begins (l : Launch) (base : Nat) (D : va_G) (tc : Nat → ClassId) (sz : Nat) (h : q_H) (a0 : Nat) {h' : q_H} (hm : m_X12_begins h a0 = some h') : q_M l yX12_begins cX12_begins 4 none 0 0 0 0 base D tc [.ref a0] sz h none sz h' := by
  refine q_startv (by decide) (Nat.le_of_ble_eq_true rfl) (fun Γ B K => ?_)
  obtain ⟨C, Rm, -⟩ := B
  have C : q_C Γ cX12_begins RX12 := C
  show q_V Γ sz 0 0 h [(0, .ref a0)] [] 0
  unfold m_X12_begins at hm
  refine q_aload_n C (k4 := 0) 0 rfl (by decide +kernel) ?_
  refine q_getn C fl_12_39 hm (by decide +kernel) (fun v1 hm => ?_)
  refine q_bipush C (n := 10) (v := 10) (by decide) (by decide +kernel) ?_
  refine q_iconst C (n := 0) (v := 0) (by decide) (by decide +kernel) ?_
  refine q_iw C hm (by decide +kernel) (fun h2 hm => ?_)
  refine q_aload_n C (k4 := 0) 0 rfl (by decide +kernel) ?_
  refine q_getn C fl_12_39 hm (by decide +kernel) (fun v3 hm => ?_)
  refine q_bipush C (n := 11) (v := 11) (by decide) (by decide +kernel) ?_
  refine q_aload_n C (k4 := 0) 0 rfl (by decide +kernel) ?_
  refine q_getn C fl_12_39 hm (by decide +kernel) (fun v4 hm => ?_)
  refine q_bipush C (n := 84) (v := 84) (by decide) (by decide +kernel) ?_
  refine q_ir C hm (by decide +kernel) (fun v5 hm => ?_)
  refine q_iw C hm (by decide +kernel) (fun h6 hm => ?_)
  refine q_iconst C (n := 0) (v := 0) (by decide) (by decide +kernel) ?_
  refine q_istore_n C Rm.1 (k4 := 1) (i := 1) rfl (lv' := [(1, .int ((0 : Int32))), (0, .ref a0)]) rfl (by decide) (by decide +kernel) ?_
  refine q_loc [1, 0] rfl ?_
  exact v_X12_begins_24 C Rm K _ _ _ _ hm
def m_X12_rope_71 (k44 : q_H → Nat → Int32 → Option (Int32 × q_H)) (h : q_H) (x0 : Nat) (x1 : Int32) (s0 : Int32) (s1 : Int32) (s2 : Nat) : Option (Int32 × q_H) :=
  (q_si h s2 1 s1 s0).bind fun h16 =>
  k44 h16 x0 ((x1 + (1 : Int32)))
set_option maxRecDepth 20000 in
set_option maxHeartbeats 1000000 in
theorem v_X12_rope_71 {Γ : q_G} {sz : Nat} {r : Int32} {h' : q_H} (C : q_C Γ cX12_rope RX12) (Rm : q_Rm Γ 2 12 262 0 0) {k44 : q_H → Nat → Int32 → Option (Int32 × q_H)} (K : narrow .int (.int r) = .int r → q_K Γ cX12_rope .ireturn sz h' 0 0 [.int r]) (hk44 : ∀ (h : q_H) (x0 : Nat) (x1 : Int32), k44 h x0 x1 = some (r, h') → q_V Γ sz 0 0 h [(0, .ref x0), (1, .int x1)] [] 44) : ∀ (h : q_H) (x0 : Nat) (x1 : Int32) (s0 : Int32) (s1 : Int32) (s2 : Nat), m_X12_rope_71 k44 h x0 x1 s0 s1 s2 = some (r, h') → q_V Γ sz 0 0 h [(0, .ref x0), (1, .int x1)] [.int s0, .int s1, .ref s2] 71 := by
  intro h x0 x1 s0 s1 s2 hm
  unfold m_X12_rope_71 at hm
  refine q_iw C hm (by decide +kernel) (fun h16 hm => ?_)
  refine q_iinc C Rm.1 (i := 1) (n := 1) (v := (x1 + (1 : Int32))) 1 rfl (q_inc _ (by decide)) (lv' := [(1, .int ((x1 + (1 : Int32)))), (0, .ref x0)]) rfl (by decide) (by decide +kernel) ?_
  refine q_goto C (off := -31) 44 (by decide +kernel) (by decide) ?_
  refine q_loc [1, 0] rfl ?_
  exact hk44 _ _ _ hm
def m_X12_rope_44  : Nat → q_H → Nat → Int32 → Option (Int32 × q_H)
  | 0, _, _, _ => none
  | n + 1, h, x0, x1 =>
    if (106 : Int32) ≤ x1 then
      (q_ca 12 h x0 (m_X12_begins h x0)).bind fun h9 =>
      (q_pf h9 x0 12 26 (.int ((0 : Int32)))).bind fun h10 =>
      (q_gn h10 x0 12 20).bind fun v11 =>
      (q_ai h10 v11 1 ((3 : Int32))).bind fun v12 =>
      some (v12, h10)
    else
      (q_gn h x0 12 20).bind fun v13 =>
      if (85 : Int32) ≤ x1 then
        m_X12_rope_71 (m_X12_rope_44 n) h x0 x1 ((0 : Int32)) x1 v13
      else
        (q_gn h x0 12 7).bind fun v14 =>
        (q_ai h v14 1 x1).bind fun v15 =>
        m_X12_rope_71 (m_X12_rope_44 n) h x0 x1 v15 x1 v13
set_option maxRecDepth 20000 in
set_option maxHeartbeats 1000000 in
theorem v_X12_rope_44 {Γ : q_G} {sz : Nat} {r : Int32} {h' : q_H} (C : q_C Γ cX12_rope RX12) (Rm : q_Rm Γ 2 12 262 0 0)  (K : narrow .int (.int r) = .int r → q_K Γ cX12_rope .ireturn sz h' 0 0 [.int r])  : ∀ (n : Nat) (h : q_H) (x0 : Nat) (x1 : Int32), m_X12_rope_44 n h x0 x1 = some (r, h') → q_V Γ sz 0 0 h [(0, .ref x0), (1, .int x1)] [] 44 := by
  intro n
  induction n with
  | zero => intro h x0 x1 hm; cases hm
  | succ n ih =>
    intro h x0 x1 hm
    unfold m_X12_rope_44 at hm
    refine q_iload_n C (k4 := 1) 1 rfl (by decide +kernel) ?_
    refine q_bipush C (n := 106) (v := 106) (by decide) (by decide +kernel) ?_
    refine q_icmp_ge C (off := 31) 78 hm (by decide +kernel) (by decide) (fun _ hm => ?_) (fun _ hm => ?_)
    · refine q_aload_n C (k4 := 0) 0 rfl (by decide +kernel) ?_
      refine q_vvS C Rm (As := []) (rest := []) Y_X12_begins Yv_X12_begins ml_X12_257 (by decide) (by decide) hm (fun h9 e9 => c_X12_begins _ _ _ _ _ _ _ e9) rfl rfl (Nat.le_of_ble_eq_true rfl) (by decide +kernel) (fun h9 hm => ?_)
      refine q_aload_n C (k4 := 0) 0 rfl (by decide +kernel) ?_
      refine q_iconst C (n := 0) (v := 0) (by decide) (by decide +kernel) ?_
      refine q_putf C fl_12_260 hm rfl rfl (by decide +kernel) (fun h10 hm => ?_)
      refine q_aload_n C (k4 := 0) 0 rfl (by decide +kernel) ?_
      refine q_getn C fl_12_39 hm (by decide +kernel) (fun v11 hm => ?_)
      refine q_iconst C (n := 3) (v := 3) (by decide) (by decide +kernel) ?_
      refine q_ir C hm (by decide +kernel) (fun v12 hm => ?_)
      exact q_riS hm K rfl (by decide +kernel)
    · refine q_aload_n C (k4 := 0) 0 rfl (by decide +kernel) ?_
      refine q_getn C fl_12_39 hm (by decide +kernel) (fun v13 hm => ?_)
      refine q_iload_n C (k4 := 1) 1 rfl (by decide +kernel) ?_
      refine q_iload_n C (k4 := 1) 1 rfl (by decide +kernel) ?_
      refine q_bipush C (n := 85) (v := 85) (by decide) (by decide +kernel) ?_
      refine q_icmp_ge C (off := 12) 70 hm (by decide +kernel) (by decide) (fun _ hm => ?_) (fun _ hm => ?_)
      · refine q_iconst C (n := 0) (v := 0) (by decide) (by decide +kernel) ?_
        exact v_X12_rope_71 C Rm K ih _ _ _ _ _ _ hm
      · refine q_aload_n C (k4 := 0) 0 rfl (by decide +kernel) ?_
        refine q_getn C fl_12_26 hm (by decide +kernel) (fun v14 hm => ?_)
        refine q_iload_n C (k4 := 1) 1 rfl (by decide +kernel) ?_
        refine q_ir C hm (by decide +kernel) (fun v15 hm => ?_)
        refine q_goto C (off := 4) 71 (by decide +kernel) (by decide) ?_
        exact v_X12_rope_71 C Rm K ih _ _ _ _ _ _ hm
def m_X12_rope_8  : Nat → q_H → Nat → Int32 → Option (Int32 × q_H)
  | 0, _, _, _ => none
  | n + 1, h, x0, x1 =>
    if (85 : Int32) ≤ x1 then
      (q_ca 12 h x0 (m_X12_readsAll h x0)).bind fun (r2, h3) =>
      if r2 = 0 then
        (q_gi h3 x0 12 9).bind fun v5 =>
        some (((-2 : Int32) - v5), h3)
      else
        m_X12_rope_44 q_fu h3 x0 ((0 : Int32))
    else
      (q_gn h x0 12 7).bind fun v6 =>
      (q_si h v6 1 x1 ((0 : Int32))).bind fun h7 =>
      m_X12_rope_8 n h7 x0 ((x1 + (1 : Int32)))
set_option maxRecDepth 20000 in
set_option maxHeartbeats 1000000 in
theorem v_X12_rope_8 {Γ : q_G} {sz : Nat} {r : Int32} {h' : q_H} (C : q_C Γ cX12_rope RX12) (Rm : q_Rm Γ 2 12 262 0 0)  (K : narrow .int (.int r) = .int r → q_K Γ cX12_rope .ireturn sz h' 0 0 [.int r])  : ∀ (n : Nat) (h : q_H) (x0 : Nat) (x1 : Int32), m_X12_rope_8 n h x0 x1 = some (r, h') → q_V Γ sz 0 0 h [(0, .ref x0), (1, .int x1)] [] 8 := by
  intro n
  induction n with
  | zero => intro h x0 x1 hm; cases hm
  | succ n ih =>
    intro h x0 x1 hm
    unfold m_X12_rope_8 at hm
    refine q_iload_n C (k4 := 1) 1 rfl (by decide +kernel) ?_
    refine q_bipush C (n := 85) (v := 85) (by decide) (by decide +kernel) ?_
    refine q_icmp_ge C (off := 16) 27 hm (by decide +kernel) (by decide) (fun _ hm => ?_) (fun _ hm => ?_)
    · refine q_aload_n C (k4 := 0) 0 rfl (by decide +kernel) ?_
      refine q_viS C Rm (As := []) (rest := []) Y_X12_readsAll Yv_X12_readsAll ml_X12_254 (by decide) (by decide) hm (fun r2 h3 e9 => c_X12_readsAll _ _ _ _ _ _ _ e9) rfl rfl (Nat.le_of_ble_eq_true rfl) (by decide +kernel) (fun r2 h3 hm z4 => ?_)
      refine q_if_ne C (off := 11) 42 hm (by decide +kernel) (by decide) (fun _ hm => ?_) (fun _ hm => ?_)
      · refine q_iconst C (n := 0) (v := 0) (by decide) (by decide +kernel) ?_
        refine q_istore_n C Rm.1 (k4 := 1) (i := 1) rfl (lv' := [(1, .int ((0 : Int32))), (0, .ref x0)]) rfl (by decide) (by decide +kernel) ?_
        refine q_loc [1, 0] rfl ?_
        exact v_X12_rope_44 C Rm K _ _ _ _ hm
      · refine q_bipush C (n := (-2)) (v := (-2)) (by decide) (by decide +kernel) ?_
        refine q_aload_n C (k4 := 0) 0 rfl (by decide +kernel) ?_
        refine q_geti C fl_12_90 hm (by decide +kernel) (fun v5 hm => ?_)
        refine q_isub C (by decide +kernel) ?_
        exact q_riS hm K rfl (by decide +kernel)
    · refine q_aload_n C (k4 := 0) 0 rfl (by decide +kernel) ?_
      refine q_getn C fl_12_26 hm (by decide +kernel) (fun v6 hm => ?_)
      refine q_iload_n C (k4 := 1) 1 rfl (by decide +kernel) ?_
      refine q_iconst C (n := 0) (v := 0) (by decide) (by decide +kernel) ?_
      refine q_iw C hm (by decide +kernel) (fun h7 hm => ?_)
      refine q_iinc C Rm.1 (i := 1) (n := 1) (v := (x1 + (1 : Int32))) 1 rfl (q_inc _ (by decide)) (lv' := [(1, .int ((x1 + (1 : Int32)))), (0, .ref x0)]) rfl (by decide) (by decide +kernel) ?_
      refine q_goto C (off := -16) 8 (by decide +kernel) (by decide) ?_
      refine q_loc [1, 0] rfl ?_
      exact ih _ _ _ hm
def m_X12_rope (h : q_H) (a0 : Nat) : Option (Int32 × q_H) :=
  (q_pf h a0 12 11 (.int ((6 : Int32)))).bind fun h1 =>
  m_X12_rope_8 q_fu h1 a0 ((0 : Int32))
set_option maxRecDepth 20000 in
set_option maxHeartbeats 1000000 in
theorem c_X12_rope (l : Launch) (base : Nat) (D : va_G) (tc : Nat → ClassId) (sz : Nat) (h : q_H) (a0 : Nat) {r : Int32} {h' : q_H} (hm : m_X12_rope h a0 = some (r, h')) : q_M l yX12_rope cX12_rope 2 (some .int) 12 262 0 0 base D tc [.ref a0] sz h (some (.int r)) sz h' := by
  refine q_starti (by decide) (Nat.le_of_ble_eq_true rfl) (fun Γ B K => ?_)
  obtain ⟨C, Rm, -⟩ := B
  have C : q_C Γ cX12_rope RX12 := C
  show q_V Γ sz 0 0 h [(0, .ref a0)] [] 0
  unfold m_X12_rope at hm
  refine q_aload_n C (k4 := 0) 0 rfl (by decide +kernel) ?_
  refine q_bipush C (n := 6) (v := 6) (by decide) (by decide +kernel) ?_
  refine q_putf C fl_12_147 hm rfl rfl (by decide +kernel) (fun h1 hm => ?_)
  refine q_iconst C (n := 0) (v := 0) (by decide) (by decide +kernel) ?_
  refine q_istore_n C Rm.1 (k4 := 1) (i := 1) rfl (lv' := [(1, .int ((0 : Int32))), (0, .ref a0)]) rfl (by decide) (by decide +kernel) ?_
  refine q_loc [1, 0] rfl ?_
  exact v_X12_rope_8 C Rm K _ _ _ _ hm
def m_X12_isRule (h0 : q_H) (a0 : Nat) (a1 : Int32) : Option Int32 :=
  if a1 < 0 then
    some ((0 : Int32))
  else
    (q_gi h0 a0 12 2).bind fun v1 =>
    if v1 ≤ a1 then
      some ((0 : Int32))
    else
      some ((1 : Int32))
set_option maxRecDepth 20000 in
set_option maxHeartbeats 1000000 in
theorem c_X12_isRule (l : Launch) (base : Nat) (D : va_G) (tc : Nat → ClassId) (sz : Nat) (h0 : q_H) (a0 : Nat) (a1 : Int32) {r : Int32} (hm : m_X12_isRule h0 a0 a1 = some r) : q_M l yX12_isRule cX12_isRule 2 (some .boolean) 0 0 0 0 base D tc [.ref a0, .int a1] sz h0 (some (.int r)) sz h0 := by
  refine q_starti (by decide) (Nat.le_of_ble_eq_true rfl) (fun Γ B K => ?_)
  obtain ⟨C, Rm, -⟩ := B
  have C : q_C Γ cX12_isRule RX12 := C
  show q_V Γ sz 0 0 h0 [(0, .ref a0), (1, .int a1)] [] 0
  unfold m_X12_isRule at hm
  refine q_iload_n C (k4 := 1) 1 rfl (by decide +kernel) ?_
  refine q_if_lt C (off := 15) 16 hm (by decide +kernel) (by decide) (fun _ hm => ?_) (fun _ hm => ?_)
  · refine q_iconst C (n := 0) (v := 0) (by decide) (by decide +kernel) ?_
    exact q_riP hm K q_z0 (by decide +kernel)
  · refine q_iload_n C (k4 := 1) 1 rfl (by decide +kernel) ?_
    refine q_aload_n C (k4 := 0) 0 rfl (by decide +kernel) ?_
    refine q_geti C fl_12_251 hm (by decide +kernel) (fun v1 hm => ?_)
    refine q_icmp_ge C (off := 7) 16 hm (by decide +kernel) (by decide) (fun _ hm => ?_) (fun _ hm => ?_)
    · refine q_iconst C (n := 0) (v := 0) (by decide) (by decide +kernel) ?_
      exact q_riP hm K q_z0 (by decide +kernel)
    · refine q_iconst C (n := 1) (v := 1) (by decide) (by decide +kernel) ?_
      refine q_goto C (off := 4) 17 (by decide +kernel) (by decide) ?_
      exact q_riP hm K q_z1 (by decide +kernel)
def m_X12_push (h : q_H) (a0 : Nat) (a1 : Int64) : Option q_H :=
  (q_gn h a0 12 17).bind fun v1 =>
  (q_gi h a0 12 18).bind fun v2 =>
  (q_sl h v1 v2 a1).bind fun h3 =>
  (q_gi h3 a0 12 18).bind fun v4 =>
  (q_pf h3 a0 12 18 (.int ((v4 + (1 : Int32))))).bind fun h5 =>
  some h5
set_option maxRecDepth 20000 in
set_option maxHeartbeats 1000000 in
theorem c_X12_push (l : Launch) (base : Nat) (D : va_G) (tc : Nat → ClassId) (sz : Nat) (h : q_H) (a0 : Nat) (a1 : Int64) {h' : q_H} (hm : m_X12_push h a0 a1 = some h') : q_M l yX12_push cX12_push 3 none 0 0 0 0 base D tc [.ref a0, .long a1] sz h none sz h' := by
  refine q_startv (by decide) (Nat.le_of_ble_eq_true rfl) (fun Γ B K => ?_)
  obtain ⟨C, Rm, -⟩ := B
  have C : q_C Γ cX12_push RX12 := C
  show q_V Γ sz 0 0 h [(0, .ref a0), (1, .long a1)] [] 0
  unfold m_X12_push at hm
  refine q_aload_n C (k4 := 0) 0 rfl (by decide +kernel) ?_
  refine q_getn C fl_12_32 hm (by decide +kernel) (fun v1 hm => ?_)
  refine q_aload_n C (k4 := 0) 0 rfl (by decide +kernel) ?_
  refine q_geti C fl_12_263 hm (by decide +kernel) (fun v2 hm => ?_)
  refine q_lload_n C (k4 := 1) 1 rfl (by decide +kernel) ?_
  refine q_lw C hm (by decide +kernel) (fun h3 hm => ?_)
  refine q_aload_n C (k4 := 0) 0 rfl (by decide +kernel) ?_
  refine q_dup C rfl (by decide +kernel) ?_
  refine q_geti C fl_12_263 hm (by decide +kernel) (fun v4 hm => ?_)
  refine q_iconst C (n := 1) (v := 1) (by decide) (by decide +kernel) ?_
  refine q_iadd C (by decide +kernel) ?_
  refine q_putf C fl_12_263 hm rfl rfl (by decide +kernel) (fun h5 hm => ?_)
  exact q_rvS hm K (by decide +kernel)
def m_X12_pop (h : q_H) (a0 : Nat) : Option (Int64 × q_H) :=
  (q_gi h a0 12 18).bind fun v1 =>
  (q_pf h a0 12 18 (.int ((v1 - (1 : Int32))))).bind fun h2 =>
  (q_gn h2 a0 12 17).bind fun v3 =>
  (q_gi h2 a0 12 18).bind fun v4 =>
  (q_al h2 v3 v4).bind fun v5 =>
  some (v5, h2)
set_option maxRecDepth 20000 in
set_option maxHeartbeats 1000000 in
theorem c_X12_pop (l : Launch) (base : Nat) (D : va_G) (tc : Nat → ClassId) (sz : Nat) (h : q_H) (a0 : Nat) {r : Int64} {h' : q_H} (hm : m_X12_pop h a0 = some (r, h')) : q_M l yX12_pop cX12_pop 1 (some .long) 0 0 0 0 base D tc [.ref a0] sz h (some (.long r)) sz h' := by
  refine q_startl (by decide) (Nat.le_of_ble_eq_true rfl) (fun Γ B K => ?_)
  obtain ⟨C, Rm, -⟩ := B
  have C : q_C Γ cX12_pop RX12 := C
  show q_V Γ sz 0 0 h [(0, .ref a0)] [] 0
  unfold m_X12_pop at hm
  refine q_aload_n C (k4 := 0) 0 rfl (by decide +kernel) ?_
  refine q_dup C rfl (by decide +kernel) ?_
  refine q_geti C fl_12_263 hm (by decide +kernel) (fun v1 hm => ?_)
  refine q_iconst C (n := 1) (v := 1) (by decide) (by decide +kernel) ?_
  refine q_isub C (by decide +kernel) ?_
  refine q_putf C fl_12_263 hm rfl rfl (by decide +kernel) (fun h2 hm => ?_)
  refine q_aload_n C (k4 := 0) 0 rfl (by decide +kernel) ?_
  refine q_getn C fl_12_32 hm (by decide +kernel) (fun v3 hm => ?_)
  refine q_aload_n C (k4 := 0) 0 rfl (by decide +kernel) ?_
  refine q_geti C fl_12_263 hm (by decide +kernel) (fun v4 hm => ?_)
  refine q_lr C hm (by decide +kernel) (fun v5 hm => ?_)
  exact q_rlS hm K (by decide +kernel)
def m_X12_one (a0 : Int32) (a1 : Int64) (a3 : Int64) : Option Int64 :=
  if a0 = 2 then
    some ((a1 + a3))
  else
  if a0 = 3 then
    some ((a1 - a3))
  else
  if a0 = 4 then
    some ((a1 * a3))
  else
  if a0 = 5 then
    if (lg_cmp a3 ((0 : Int64))) = 0 then
      some ((0 : Int64))
    else
      if a3 = 0 then none else
      some ((a1 / a3))
  else
  if a0 = 6 then
    if 0 ≤ (lg_cmp a1 a3) then
      some ((0 : Int64))
    else
      some ((1 : Int64))
  else
  if a0 = 7 then
    if 0 < (lg_cmp a1 a3) then
      some ((0 : Int64))
    else
      some ((1 : Int64))
  else
  if a0 = 8 then
    if (lg_cmp a1 a3) = 0 then
      some ((1 : Int64))
    else
      some ((0 : Int64))
  else
  if a0 = 9 then
    if (lg_cmp a1 a3) < 0 then
      some ((0 : Int64))
    else
      some ((1 : Int64))
  else
  if a0 = 10 then
    if (lg_cmp a1 a3) ≤ 0 then
      some ((0 : Int64))
    else
      some ((1 : Int64))
  else
  if a0 = 11 then
    some ((a1 ||| a3))
  else
  if a0 = 12 then
    some ((a1 &&& a3))
  else
  if a0 = 13 then
    some ((a1 ||| a3))
  else
  if a0 = 14 then
    if (lg_cmp a3 ((0 : Int64))) = 0 then
      some ((0 : Int64))
    else
      if a3 = 0 then none else
      some ((q_rml a1 a3))
  else
  some ((a1 ||| a3))
set_option maxRecDepth 20000 in
set_option maxHeartbeats 1000000 in
theorem c_X12_one (l : Launch) (base : Nat) (D : va_G) (tc : Nat → ClassId) (sz : Nat) (h0 : q_H) (a0 : Int32) (a1 : Int64) (a3 : Int64) {r : Int64} (hm : m_X12_one a0 a1 a3 = some r) : q_M l yX12_one cX12_one 5 (some .long) 0 0 0 0 base D tc [.int a0, .long a1, .long a3] sz h0 (some (.long r)) sz h0 := by
  refine q_startl (by decide) (Nat.le_of_ble_eq_true rfl) (fun Γ B K => ?_)
  obtain ⟨C, Rm, -⟩ := B
  have C : q_C Γ cX12_one RX12 := C
  show q_V Γ sz 0 0 h0 [(0, .int a0), (1, .long a1), (3, .long a3)] [] 0
  unfold m_X12_one at hm
  refine q_iload_n C (k4 := 0) 0 rfl (by decide +kernel) ?_
  by_cases c1_0 : a0 = 2
  · rw [if_pos c1_0] at hm
    refine q_tsIn C (dflt := 171) (lo := 2) (hi := 14) (offs := #[67, 71, 75, 79, 107, 119, 131, 143, 155, 171, 167, 171, 93]) (len := 67) (67) 68 (by decide +kernel) (by rw [c1_0]; decide) (by rw [c1_0]; decide) (by rw [c1_0]; decide) (by decide) ?_
    refine q_lload_n C (k4 := 1) 1 rfl (by decide +kernel) ?_
    refine q_lload_n C (k4 := 3) 2 rfl (by decide +kernel) ?_
    refine q_ladd C (by decide +kernel) ?_
    exact q_rlP hm K (by decide +kernel)
  rw [if_neg c1_0] at hm
  by_cases c1_1 : a0 = 3
  · rw [if_pos c1_1] at hm
    refine q_tsIn C (dflt := 171) (lo := 2) (hi := 14) (offs := #[67, 71, 75, 79, 107, 119, 131, 143, 155, 171, 167, 171, 93]) (len := 67) (71) 72 (by decide +kernel) (by rw [c1_1]; decide) (by rw [c1_1]; decide) (by rw [c1_1]; decide) (by decide) ?_
    refine q_lload_n C (k4 := 1) 1 rfl (by decide +kernel) ?_
    refine q_lload_n C (k4 := 3) 2 rfl (by decide +kernel) ?_
    refine q_lsub C (by decide +kernel) ?_
    exact q_rlP hm K (by decide +kernel)
  rw [if_neg c1_1] at hm
  by_cases c1_2 : a0 = 4
  · rw [if_pos c1_2] at hm
    refine q_tsIn C (dflt := 171) (lo := 2) (hi := 14) (offs := #[67, 71, 75, 79, 107, 119, 131, 143, 155, 171, 167, 171, 93]) (len := 67) (75) 76 (by decide +kernel) (by rw [c1_2]; decide) (by rw [c1_2]; decide) (by rw [c1_2]; decide) (by decide) ?_
    refine q_lload_n C (k4 := 1) 1 rfl (by decide +kernel) ?_
    refine q_lload_n C (k4 := 3) 2 rfl (by decide +kernel) ?_
    refine q_lmul C (by decide +kernel) ?_
    exact q_rlP hm K (by decide +kernel)
  rw [if_neg c1_2] at hm
  by_cases c1_3 : a0 = 5
  · rw [if_pos c1_3] at hm
    refine q_tsIn C (dflt := 171) (lo := 2) (hi := 14) (offs := #[67, 71, 75, 79, 107, 119, 131, 143, 155, 171, 167, 171, 93]) (len := 67) (79) 80 (by decide +kernel) (by rw [c1_3]; decide) (by rw [c1_3]; decide) (by rw [c1_3]; decide) (by decide) ?_
    refine q_lload_n C (k4 := 3) 2 rfl (by decide +kernel) ?_
    refine q_lconst C (n := 0) (v := 0) (by decide) (by decide +kernel) ?_
    refine q_lcmp C (by decide +kernel) ?_
    refine q_if_ne C (off := 7) 90 hm (by decide +kernel) (by decide) (fun _ hm => ?_) (fun _ hm => ?_)
    · refine q_lload_n C (k4 := 1) 1 rfl (by decide +kernel) ?_
      refine q_lload_n C (k4 := 3) 2 rfl (by decide +kernel) ?_
      refine q_ldivc C hm (by decide +kernel) (fun hm => ?_)
      exact q_rlP hm K (by decide +kernel)
    · refine q_lconst C (n := 0) (v := 0) (by decide) (by decide +kernel) ?_
      refine q_goto C (off := 6) 93 (by decide +kernel) (by decide) ?_
      exact q_rlP hm K (by decide +kernel)
  rw [if_neg c1_3] at hm
  by_cases c1_4 : a0 = 6
  · rw [if_pos c1_4] at hm
    refine q_tsIn C (dflt := 171) (lo := 2) (hi := 14) (offs := #[67, 71, 75, 79, 107, 119, 131, 143, 155, 171, 167, 171, 93]) (len := 67) (107) 108 (by decide +kernel) (by rw [c1_4]; decide) (by rw [c1_4]; decide) (by rw [c1_4]; decide) (by decide) ?_
    refine q_lload_n C (k4 := 1) 1 rfl (by decide +kernel) ?_
    refine q_lload_n C (k4 := 3) 2 rfl (by decide +kernel) ?_
    refine q_lcmp C (by decide +kernel) ?_
    refine q_if_ge C (off := 7) 118 hm (by decide +kernel) (by decide) (fun _ hm => ?_) (fun _ hm => ?_)
    · refine q_lconst C (n := 0) (v := 0) (by decide) (by decide +kernel) ?_
      exact q_rlP hm K (by decide +kernel)
    · refine q_lconst C (n := 1) (v := 1) (by decide) (by decide +kernel) ?_
      refine q_goto C (off := 4) 119 (by decide +kernel) (by decide) ?_
      exact q_rlP hm K (by decide +kernel)
  rw [if_neg c1_4] at hm
  by_cases c1_5 : a0 = 7
  · rw [if_pos c1_5] at hm
    refine q_tsIn C (dflt := 171) (lo := 2) (hi := 14) (offs := #[67, 71, 75, 79, 107, 119, 131, 143, 155, 171, 167, 171, 93]) (len := 67) (119) 120 (by decide +kernel) (by rw [c1_5]; decide) (by rw [c1_5]; decide) (by rw [c1_5]; decide) (by decide) ?_
    refine q_lload_n C (k4 := 1) 1 rfl (by decide +kernel) ?_
    refine q_lload_n C (k4 := 3) 2 rfl (by decide +kernel) ?_
    refine q_lcmp C (by decide +kernel) ?_
    refine q_if_gt C (off := 7) 130 hm (by decide +kernel) (by decide) (fun _ hm => ?_) (fun _ hm => ?_)
    · refine q_lconst C (n := 0) (v := 0) (by decide) (by decide +kernel) ?_
      exact q_rlP hm K (by decide +kernel)
    · refine q_lconst C (n := 1) (v := 1) (by decide) (by decide +kernel) ?_
      refine q_goto C (off := 4) 131 (by decide +kernel) (by decide) ?_
      exact q_rlP hm K (by decide +kernel)
  rw [if_neg c1_5] at hm
  by_cases c1_6 : a0 = 8
  · rw [if_pos c1_6] at hm
    refine q_tsIn C (dflt := 171) (lo := 2) (hi := 14) (offs := #[67, 71, 75, 79, 107, 119, 131, 143, 155, 171, 167, 171, 93]) (len := 67) (131) 132 (by decide +kernel) (by rw [c1_6]; decide) (by rw [c1_6]; decide) (by rw [c1_6]; decide) (by decide) ?_
    refine q_lload_n C (k4 := 1) 1 rfl (by decide +kernel) ?_
    refine q_lload_n C (k4 := 3) 2 rfl (by decide +kernel) ?_
    refine q_lcmp C (by decide +kernel) ?_
    refine q_if_ne C (off := 7) 142 hm (by decide +kernel) (by decide) (fun _ hm => ?_) (fun _ hm => ?_)
    · refine q_lconst C (n := 0) (v := 0) (by decide) (by decide +kernel) ?_
      exact q_rlP hm K (by decide +kernel)
    · refine q_lconst C (n := 1) (v := 1) (by decide) (by decide +kernel) ?_
      refine q_goto C (off := 4) 143 (by decide +kernel) (by decide) ?_
      exact q_rlP hm K (by decide +kernel)
  rw [if_neg c1_6] at hm
  by_cases c1_7 : a0 = 9
  · rw [if_pos c1_7] at hm
    refine q_tsIn C (dflt := 171) (lo := 2) (hi := 14) (offs := #[67, 71, 75, 79, 107, 119, 131, 143, 155, 171, 167, 171, 93]) (len := 67) (143) 144 (by decide +kernel) (by rw [c1_7]; decide) (by rw [c1_7]; decide) (by rw [c1_7]; decide) (by decide) ?_
    refine q_lload_n C (k4 := 1) 1 rfl (by decide +kernel) ?_
    refine q_lload_n C (k4 := 3) 2 rfl (by decide +kernel) ?_
    refine q_lcmp C (by decide +kernel) ?_
    refine q_if_lt C (off := 7) 154 hm (by decide +kernel) (by decide) (fun _ hm => ?_) (fun _ hm => ?_)
    · refine q_lconst C (n := 0) (v := 0) (by decide) (by decide +kernel) ?_
      exact q_rlP hm K (by decide +kernel)
    · refine q_lconst C (n := 1) (v := 1) (by decide) (by decide +kernel) ?_
      refine q_goto C (off := 4) 155 (by decide +kernel) (by decide) ?_
      exact q_rlP hm K (by decide +kernel)
  rw [if_neg c1_7] at hm
  by_cases c1_8 : a0 = 10
  · rw [if_pos c1_8] at hm
    refine q_tsIn C (dflt := 171) (lo := 2) (hi := 14) (offs := #[67, 71, 75, 79, 107, 119, 131, 143, 155, 171, 167, 171, 93]) (len := 67) (155) 156 (by decide +kernel) (by rw [c1_8]; decide) (by rw [c1_8]; decide) (by rw [c1_8]; decide) (by decide) ?_
    refine q_lload_n C (k4 := 1) 1 rfl (by decide +kernel) ?_
    refine q_lload_n C (k4 := 3) 2 rfl (by decide +kernel) ?_
    refine q_lcmp C (by decide +kernel) ?_
    refine q_if_le C (off := 7) 166 hm (by decide +kernel) (by decide) (fun _ hm => ?_) (fun _ hm => ?_)
    · refine q_lconst C (n := 0) (v := 0) (by decide) (by decide +kernel) ?_
      exact q_rlP hm K (by decide +kernel)
    · refine q_lconst C (n := 1) (v := 1) (by decide) (by decide +kernel) ?_
      refine q_goto C (off := 4) 167 (by decide +kernel) (by decide) ?_
      exact q_rlP hm K (by decide +kernel)
  rw [if_neg c1_8] at hm
  by_cases c1_9 : a0 = 11
  · rw [if_pos c1_9] at hm
    refine q_tsIn C (dflt := 171) (lo := 2) (hi := 14) (offs := #[67, 71, 75, 79, 107, 119, 131, 143, 155, 171, 167, 171, 93]) (len := 67) (171) 172 (by decide +kernel) (by rw [c1_9]; decide) (by rw [c1_9]; decide) (by rw [c1_9]; decide) (by decide) ?_
    refine q_lload_n C (k4 := 1) 1 rfl (by decide +kernel) ?_
    refine q_lload_n C (k4 := 3) 2 rfl (by decide +kernel) ?_
    refine q_lor C (by decide +kernel) ?_
    exact q_rlP hm K (by decide +kernel)
  rw [if_neg c1_9] at hm
  by_cases c1_10 : a0 = 12
  · rw [if_pos c1_10] at hm
    refine q_tsIn C (dflt := 171) (lo := 2) (hi := 14) (offs := #[67, 71, 75, 79, 107, 119, 131, 143, 155, 171, 167, 171, 93]) (len := 67) (167) 168 (by decide +kernel) (by rw [c1_10]; decide) (by rw [c1_10]; decide) (by rw [c1_10]; decide) (by decide) ?_
    refine q_lload_n C (k4 := 1) 1 rfl (by decide +kernel) ?_
    refine q_lload_n C (k4 := 3) 2 rfl (by decide +kernel) ?_
    refine q_land C (by decide +kernel) ?_
    exact q_rlP hm K (by decide +kernel)
  rw [if_neg c1_10] at hm
  by_cases c1_11 : a0 = 13
  · rw [if_pos c1_11] at hm
    refine q_tsIn C (dflt := 171) (lo := 2) (hi := 14) (offs := #[67, 71, 75, 79, 107, 119, 131, 143, 155, 171, 167, 171, 93]) (len := 67) (171) 172 (by decide +kernel) (by rw [c1_11]; decide) (by rw [c1_11]; decide) (by rw [c1_11]; decide) (by decide) ?_
    refine q_lload_n C (k4 := 1) 1 rfl (by decide +kernel) ?_
    refine q_lload_n C (k4 := 3) 2 rfl (by decide +kernel) ?_
    refine q_lor C (by decide +kernel) ?_
    exact q_rlP hm K (by decide +kernel)
  rw [if_neg c1_11] at hm
  by_cases c1_12 : a0 = 14
  · rw [if_pos c1_12] at hm
    refine q_tsIn C (dflt := 171) (lo := 2) (hi := 14) (offs := #[67, 71, 75, 79, 107, 119, 131, 143, 155, 171, 167, 171, 93]) (len := 67) (93) 94 (by decide +kernel) (by rw [c1_12]; decide) (by rw [c1_12]; decide) (by rw [c1_12]; decide) (by decide) ?_
    refine q_lload_n C (k4 := 3) 2 rfl (by decide +kernel) ?_
    refine q_lconst C (n := 0) (v := 0) (by decide) (by decide +kernel) ?_
    refine q_lcmp C (by decide +kernel) ?_
    refine q_if_ne C (off := 7) 104 hm (by decide +kernel) (by decide) (fun _ hm => ?_) (fun _ hm => ?_)
    · refine q_lload_n C (k4 := 1) 1 rfl (by decide +kernel) ?_
      refine q_lload_n C (k4 := 3) 2 rfl (by decide +kernel) ?_
      refine q_lremc C hm (by decide +kernel) (fun hm => ?_)
      exact q_rlP hm K (by decide +kernel)
    · refine q_lconst C (n := 0) (v := 0) (by decide) (by decide +kernel) ?_
      refine q_goto C (off := 6) 107 (by decide +kernel) (by decide) ?_
      exact q_rlP hm K (by decide +kernel)
  rw [if_neg c1_12] at hm
  have nc1_0 := lv_neT c1_0 (show (2 : Int32).toInt = 2 from by decide)
  have nc1_1 := lv_neT c1_1 (show (3 : Int32).toInt = 3 from by decide)
  have nc1_2 := lv_neT c1_2 (show (4 : Int32).toInt = 4 from by decide)
  have nc1_3 := lv_neT c1_3 (show (5 : Int32).toInt = 5 from by decide)
  have nc1_4 := lv_neT c1_4 (show (6 : Int32).toInt = 6 from by decide)
  have nc1_5 := lv_neT c1_5 (show (7 : Int32).toInt = 7 from by decide)
  have nc1_6 := lv_neT c1_6 (show (8 : Int32).toInt = 8 from by decide)
  have nc1_7 := lv_neT c1_7 (show (9 : Int32).toInt = 9 from by decide)
  have nc1_8 := lv_neT c1_8 (show (10 : Int32).toInt = 10 from by decide)
  have nc1_9 := lv_neT c1_9 (show (11 : Int32).toInt = 11 from by decide)
  have nc1_10 := lv_neT c1_10 (show (12 : Int32).toInt = 12 from by decide)
  have nc1_11 := lv_neT c1_11 (show (13 : Int32).toInt = 13 from by decide)
  have nc1_12 := lv_neT c1_12 (show (14 : Int32).toInt = 14 from by decide)
  refine q_tsOut C (dflt := 171) (lo := 2) (hi := 14) (offs := #[67, 71, 75, 79, 107, 119, 131, 143, 155, 171, 167, 171, 93]) (len := 67) 172 (by decide +kernel) (by omega) (by decide) ?_
  refine q_lload_n C (k4 := 1) 1 rfl (by decide +kernel) ?_
  refine q_lload_n C (k4 := 3) 2 rfl (by decide +kernel) ?_
  refine q_lor C (by decide +kernel) ?_
  exact q_rlP hm K (by decide +kernel)
def m_X12_reckons_129 (k8 : q_H → Nat → Int32 → Int32 → Int32 → Option (Int64 × q_H)) (h : q_H) (x0 : Nat) (x1 : Int32) (x3 : Int32) (x4 : Int32) : Option (Int64 × q_H) :=
  k8 h x0 x1 x3 ((x4 + (1 : Int32)))
set_option maxRecDepth 20000 in
set_option maxHeartbeats 1000000 in
theorem v_X12_reckons_129 {Γ : q_G} {sz : Nat} {r : Int64} {h' : q_H} (C : q_C Γ cX12_reckons RX12) (Rm : q_Rm Γ 11 1 24 0 0) {k8 : q_H → Nat → Int32 → Int32 → Int32 → Option (Int64 × q_H)} (K : q_K Γ cX12_reckons .lreturn sz h' 0 0 [.long r]) (hk8 : ∀ (h : q_H) (x0 : Nat) (x1 : Int32) (x3 : Int32) (x4 : Int32), k8 h x0 x1 x3 x4 = some (r, h') → q_V Γ sz 0 0 h [(0, .ref x0), (1, .int x1), (3, .int x3), (4, .int x4)] [] 8) : ∀ (h : q_H) (x0 : Nat) (x1 : Int32) (x3 : Int32) (x4 : Int32), m_X12_reckons_129 k8 h x0 x1 x3 x4 = some (r, h') → q_V Γ sz 0 0 h [(0, .ref x0), (1, .int x1), (3, .int x3), (4, .int x4)] [] 129 := by
  intro h x0 x1 x3 x4 hm
  unfold m_X12_reckons_129 at hm
  refine q_iinc C Rm.1 (i := 4) (n := 1) (v := (x4 + (1 : Int32))) 3 rfl (q_inc _ (by decide)) (lv' := [(4, .int ((x4 + (1 : Int32)))), (0, .ref x0), (1, .int x1), (3, .int x3)]) rfl (by decide) (by decide +kernel) ?_
  refine q_goto C (off := -124) 8 (by decide +kernel) (by decide) ?_
  refine q_loc [1, 2, 3, 0] rfl ?_
  exact hk8 _ _ _ _ _ hm
def m_X12_reckons_8  : Nat → q_H → Nat → Int32 → Int32 → Int32 → Option (Int64 × q_H)
  | 0, _, _, _, _, _ => none
  | n + 1, h, x0, x1, x3, x4 =>
    if x3 ≤ x4 then
      (q_ca 12 h x0 (m_X12_pop h x0)).bind fun (r2, h3) =>
      some (r2, h3)
    else
      (q_gn h x0 12 3).bind fun v4 =>
      (q_ai h v4 1 ((((400 : Int32) * x1) + x4))).bind fun v5 =>
      (q_gn h x0 12 3).bind fun v6 =>
      (q_ai h v6 1 ((((400 : Int32) * x1) + x4))).bind fun v7 =>
      if (v5 &&& (15 : Int32)) = 0 then
        (q_ca 12 h x0 (m_X12_push h x0 (((v7 >>> ((4 : Int32) &&& 31))).toInt64))).bind fun h24 =>
        m_X12_reckons_129 (m_X12_reckons_8 n) h24 x0 x1 x3 x4
      else
        if (v5 &&& (15 : Int32)) = (1 : Int32) then
          (q_gn h x0 12 19).bind fun v19 =>
          (q_al h v19 ((v7 >>> ((4 : Int32) &&& 31)))).bind fun v20 =>
          (q_ca 12 h x0 (m_X12_push h x0 v20)).bind fun h22 =>
          m_X12_reckons_129 (m_X12_reckons_8 n) h22 x0 x1 x3 x4
        else
          if (v5 &&& (15 : Int32)) = (11 : Int32) then
            (q_ca 12 h x0 (m_X12_pop h x0)).bind fun (r15, h16) =>
            (q_ca 12 h16 x0 (m_X12_push h16 x0 (((1 : Int64) - r15)))).bind fun h18 =>
            m_X12_reckons_129 (m_X12_reckons_8 n) h18 x0 x1 x3 x4
          else
            (q_ca 12 h x0 (m_X12_pop h x0)).bind fun (r8, h9) =>
            (q_ca 12 h9 x0 (m_X12_pop h9 x0)).bind fun (r10, h11) =>
            (m_X12_one ((v5 &&& (15 : Int32))) r10 r8).bind fun r12 =>
            (q_ca 12 h11 x0 (m_X12_push h11 x0 r12)).bind fun h14 =>
            m_X12_reckons_129 (m_X12_reckons_8 n) h14 x0 x1 x3 x4
set_option maxRecDepth 20000 in
set_option maxHeartbeats 1000000 in
theorem v_X12_reckons_8 {Γ : q_G} {sz : Nat} {r : Int64} {h' : q_H} (C : q_C Γ cX12_reckons RX12) (Rm : q_Rm Γ 11 1 24 0 0)  (K : q_K Γ cX12_reckons .lreturn sz h' 0 0 [.long r])  : ∀ (n : Nat) (h : q_H) (x0 : Nat) (x1 : Int32) (x3 : Int32) (x4 : Int32), m_X12_reckons_8 n h x0 x1 x3 x4 = some (r, h') → q_V Γ sz 0 0 h [(0, .ref x0), (1, .int x1), (3, .int x3), (4, .int x4)] [] 8 := by
  intro n
  induction n with
  | zero => intro h x0 x1 x3 x4 hm; cases hm
  | succ n ih =>
    intro h x0 x1 x3 x4 hm
    unfold m_X12_reckons_8 at hm
    refine q_iload C (i := 4) 3 rfl (by decide +kernel) ?_
    refine q_iload_n C (k4 := 3) 2 rfl (by decide +kernel) ?_
    refine q_icmp_ge C (off := 124) 135 hm (by decide +kernel) (by decide) (fun _ hm => ?_) (fun _ hm => ?_)
    · refine q_aload_n C (k4 := 0) 0 rfl (by decide +kernel) ?_
      refine q_vlS C Rm (As := []) (rest := []) Y_X12_pop Yv_X12_pop ml_X12_270 (by decide) (by decide) hm (fun r2 h3 e9 => c_X12_pop _ _ _ _ _ _ _ e9) rfl rfl (Nat.le_of_ble_eq_true rfl) (by decide +kernel) (fun r2 h3 hm => ?_)
      exact q_rlS hm K (by decide +kernel)
    · refine q_aload_n C (k4 := 0) 0 rfl (by decide +kernel) ?_
      refine q_getn C fl_12_13 hm (by decide +kernel) (fun v4 hm => ?_)
      refine q_sipush C (n := 400) (v := 400) (by decide) (by decide +kernel) ?_
      refine q_iload_n C (k4 := 1) 1 rfl (by decide +kernel) ?_
      refine q_imul C (by decide +kernel) ?_
      refine q_iload C (i := 4) 3 rfl (by decide +kernel) ?_
      refine q_iadd C (by decide +kernel) ?_
      refine q_ir C hm (by decide +kernel) (fun v5 hm => ?_)
      refine q_bipush C (n := 15) (v := 15) (by decide) (by decide +kernel) ?_
      refine q_iand C (by decide +kernel) ?_
      refine q_istore C Rm.1 (i := 5) (lv' := [(5, .int ((v5 &&& (15 : Int32)))), (0, .ref x0), (1, .int x1), (3, .int x3), (4, .int x4)]) rfl (by decide) (by decide +kernel) ?_
      refine q_aload_n C (k4 := 0) 1 rfl (by decide +kernel) ?_
      refine q_getn C fl_12_13 hm (by decide +kernel) (fun v6 hm => ?_)
      refine q_sipush C (n := 400) (v := 400) (by decide) (by decide +kernel) ?_
      refine q_iload_n C (k4 := 1) 2 rfl (by decide +kernel) ?_
      refine q_imul C (by decide +kernel) ?_
      refine q_iload C (i := 4) 4 rfl (by decide +kernel) ?_
      refine q_iadd C (by decide +kernel) ?_
      refine q_ir C hm (by decide +kernel) (fun v7 hm => ?_)
      refine q_iconst C (n := 4) (v := 4) (by decide) (by decide +kernel) ?_
      refine q_ishr C (by decide +kernel) ?_
      refine q_istore C Rm.1 (i := 6) (lv' := [(6, .int ((v7 >>> ((4 : Int32) &&& 31)))), (5, .int ((v5 &&& (15 : Int32)))), (0, .ref x0), (1, .int x1), (3, .int x3), (4, .int x4)]) rfl (by decide) (by decide +kernel) ?_
      refine q_iload C (i := 5) 1 rfl (by decide +kernel) ?_
      refine q_if_ne C (off := 13) 64 hm (by decide +kernel) (by decide) (fun _ hm => ?_) (fun _ hm => ?_)
      · refine q_iload C (i := 5) 1 rfl (by decide +kernel) ?_
        refine q_iconst C (n := 1) (v := 1) (by decide) (by decide +kernel) ?_
        refine q_icmp_ne C (off := 17) 84 hm (by decide +kernel) (by decide) (fun _ hm => ?_) (fun _ hm => ?_)
        · refine q_iload C (i := 5) 1 rfl (by decide +kernel) ?_
          refine q_bipush C (n := 11) (v := 11) (by decide) (by decide +kernel) ?_
          refine q_icmp_ne C (off := 16) 104 hm (by decide +kernel) (by decide) (fun _ hm => ?_) (fun _ hm => ?_)
          · refine q_aload_n C (k4 := 0) 2 rfl (by decide +kernel) ?_
            refine q_vlS C Rm (As := []) (rest := []) Y_X12_pop Yv_X12_pop ml_X12_270 (by decide) (by decide) hm (fun r8 h9 e9 => c_X12_pop _ _ _ _ _ _ _ e9) rfl rfl (Nat.le_of_ble_eq_true rfl) (by decide +kernel) (fun r8 h9 hm => ?_)
            refine q_lstore C Rm.1 (i := 7) (lv' := [(7, .long r8), (6, .int ((v7 >>> ((4 : Int32) &&& 31)))), (5, .int ((v5 &&& (15 : Int32)))), (0, .ref x0), (1, .int x1), (3, .int x3), (4, .int x4)]) rfl (by decide) (by decide +kernel) ?_
            refine q_aload_n C (k4 := 0) 3 rfl (by decide +kernel) ?_
            refine q_vlS C Rm (As := []) (rest := []) Y_X12_pop Yv_X12_pop ml_X12_270 (by decide) (by decide) hm (fun r10 h11 e9 => c_X12_pop _ _ _ _ _ _ _ e9) rfl rfl (Nat.le_of_ble_eq_true rfl) (by decide +kernel) (fun r10 h11 hm => ?_)
            refine q_lstore C Rm.1 (i := 9) (lv' := [(9, .long r10), (7, .long r8), (6, .int ((v7 >>> ((4 : Int32) &&& 31)))), (5, .int ((v5 &&& (15 : Int32)))), (0, .ref x0), (1, .int x1), (3, .int x3), (4, .int x4)]) rfl (by decide) (by decide +kernel) ?_
            refine q_aload_n C (k4 := 0) 4 rfl (by decide +kernel) ?_
            refine q_iload C (i := 5) 3 rfl (by decide +kernel) ?_
            refine q_lload C (i := 9) 0 rfl (by decide +kernel) ?_
            refine q_lload C (i := 7) 1 rfl (by decide +kernel) ?_
            refine q_slP C Rm (As := [.int ((v5 &&& (15 : Int32))), .long r10, .long r8]) (rest := [.ref x0]) Y_X12_one Ys_X12_one ml_X12_274 (by decide) (by decide) hm (fun r9 e9 => c_X12_one _ _ _ _ _ _ _ _ _ e9) rfl rfl (Nat.le_of_ble_eq_true rfl) (by decide +kernel) (fun r12 hm => ?_)
            refine q_vvS C Rm (As := [.long r12]) (rest := []) Y_X12_push Yv_X12_push ml_X12_266 (by decide) (by decide) hm (fun h14 e9 => c_X12_push _ _ _ _ _ _ _ _ e9) rfl rfl (Nat.le_of_ble_eq_true rfl) (by decide +kernel) (fun h14 hm => ?_)
            refine q_loc [4, 5, 6, 7] rfl ?_
            exact v_X12_reckons_129 C Rm K ih _ _ _ _ _ hm
          · refine q_aload_n C (k4 := 0) 2 rfl (by decide +kernel) ?_
            refine q_lconst C (n := 1) (v := 1) (by decide) (by decide +kernel) ?_
            refine q_aload_n C (k4 := 0) 2 rfl (by decide +kernel) ?_
            refine q_vlS C Rm (As := []) (rest := [.long ((1 : Int64)), .ref x0]) Y_X12_pop Yv_X12_pop ml_X12_270 (by decide) (by decide) hm (fun r15 h16 e9 => c_X12_pop _ _ _ _ _ _ _ e9) rfl rfl (Nat.le_of_ble_eq_true rfl) (by decide +kernel) (fun r15 h16 hm => ?_)
            refine q_lsub C (by decide +kernel) ?_
            refine q_vvS C Rm (As := [.long (((1 : Int64) - r15))]) (rest := []) Y_X12_push Yv_X12_push ml_X12_266 (by decide) (by decide) hm (fun h18 e9 => c_X12_push _ _ _ _ _ _ _ _ e9) rfl rfl (Nat.le_of_ble_eq_true rfl) (by decide +kernel) (fun h18 hm => ?_)
            refine q_goto C (off := 28) 129 (by decide +kernel) (by decide) ?_
            refine q_loc [2, 3, 4, 5] rfl ?_
            exact v_X12_reckons_129 C Rm K ih _ _ _ _ _ hm
        · refine q_aload_n C (k4 := 0) 2 rfl (by decide +kernel) ?_
          refine q_aload_n C (k4 := 0) 2 rfl (by decide +kernel) ?_
          refine q_getn C fl_12_36 hm (by decide +kernel) (fun v19 hm => ?_)
          refine q_iload C (i := 6) 0 rfl (by decide +kernel) ?_
          refine q_lr C hm (by decide +kernel) (fun v20 hm => ?_)
          refine q_vvS C Rm (As := [.long v20]) (rest := []) Y_X12_push Yv_X12_push ml_X12_266 (by decide) (by decide) hm (fun h22 e9 => c_X12_push _ _ _ _ _ _ _ _ e9) rfl rfl (Nat.le_of_ble_eq_true rfl) (by decide +kernel) (fun h22 hm => ?_)
          refine q_goto C (off := 48) 129 (by decide +kernel) (by decide) ?_
          refine q_loc [2, 3, 4, 5] rfl ?_
          exact v_X12_reckons_129 C Rm K ih _ _ _ _ _ hm
      · refine q_aload_n C (k4 := 0) 2 rfl (by decide +kernel) ?_
        refine q_iload C (i := 6) 0 rfl (by decide +kernel) ?_
        refine q_i2l C (by decide +kernel) ?_
        refine q_vvS C Rm (As := [.long (((v7 >>> ((4 : Int32) &&& 31))).toInt64)]) (rest := []) Y_X12_push Yv_X12_push ml_X12_266 (by decide) (by decide) hm (fun h24 e9 => c_X12_push _ _ _ _ _ _ _ _ e9) rfl rfl (Nat.le_of_ble_eq_true rfl) (by decide +kernel) (fun h24 hm => ?_)
        refine q_goto C (off := 68) 129 (by decide +kernel) (by decide) ?_
        refine q_loc [2, 3, 4, 5] rfl ?_
        exact v_X12_reckons_129 C Rm K ih _ _ _ _ _ hm
def m_X12_reckons (h : q_H) (a0 : Nat) (a1 : Int32) (a2 : Int32) (a3 : Int32) : Option (Int64 × q_H) :=
  (q_pf h a0 12 18 (.int ((0 : Int32)))).bind fun h1 =>
  m_X12_reckons_8 q_fu h1 a0 a1 a3 a2
set_option maxRecDepth 20000 in
set_option maxHeartbeats 1000000 in
theorem c_X12_reckons (l : Launch) (base : Nat) (D : va_G) (tc : Nat → ClassId) (sz : Nat) (h : q_H) (a0 : Nat) (a1 : Int32) (a2 : Int32) (a3 : Int32) {r : Int64} {h' : q_H} (hm : m_X12_reckons h a0 a1 a2 a3 = some (r, h')) : q_M l yX12_reckons cX12_reckons 11 (some .long) 1 24 0 0 base D tc [.ref a0, .int a1, .int a2, .int a3] sz h (some (.long r)) sz h' := by
  refine q_startl (by decide) (Nat.le_of_ble_eq_true rfl) (fun Γ B K => ?_)
  obtain ⟨C, Rm, -⟩ := B
  have C : q_C Γ cX12_reckons RX12 := C
  show q_V Γ sz 0 0 h [(0, .ref a0), (1, .int a1), (2, .int a2), (3, .int a3)] [] 0
  unfold m_X12_reckons at hm
  refine q_aload_n C (k4 := 0) 0 rfl (by decide +kernel) ?_
  refine q_iconst C (n := 0) (v := 0) (by decide) (by decide +kernel) ?_
  refine q_putf C fl_12_263 hm rfl rfl (by decide +kernel) (fun h1 hm => ?_)
  refine q_iload_n C (k4 := 2) 2 rfl (by decide +kernel) ?_
  refine q_istore C Rm.1 (i := 4) (lv' := [(4, .int a2), (0, .ref a0), (1, .int a1), (2, .int a2), (3, .int a3)]) rfl (by decide) (by decide +kernel) ?_
  refine q_loc [1, 2, 4, 0] rfl ?_
  exact v_X12_reckons_8 C Rm K _ _ _ _ _ _ hm
def m_X12_isRope (h0 : q_H) (a0 : Nat) : Option Int32 :=
  (q_gn h0 a0 12 20).bind fun v1 =>
  (q_ai h0 v1 1 ((0 : Int32))).bind fun v2 =>
  if v2 = (1 : Int32) then
    some ((1 : Int32))
  else
    some ((0 : Int32))
set_option maxRecDepth 20000 in
set_option maxHeartbeats 1000000 in
theorem c_X12_isRope (l : Launch) (base : Nat) (D : va_G) (tc : Nat → ClassId) (sz : Nat) (h0 : q_H) (a0 : Nat) {r : Int32} (hm : m_X12_isRope h0 a0 = some r) : q_M l yX12_isRope cX12_isRope 1 (some .boolean) 0 0 0 0 base D tc [.ref a0] sz h0 (some (.int r)) sz h0 := by
  refine q_starti (by decide) (Nat.le_of_ble_eq_true rfl) (fun Γ B K => ?_)
  obtain ⟨C, Rm, -⟩ := B
  have C : q_C Γ cX12_isRope RX12 := C
  show q_V Γ sz 0 0 h0 [(0, .ref a0)] [] 0
  unfold m_X12_isRope at hm
  refine q_aload_n C (k4 := 0) 0 rfl (by decide +kernel) ?_
  refine q_getn C fl_12_39 hm (by decide +kernel) (fun v1 hm => ?_)
  refine q_iconst C (n := 0) (v := 0) (by decide) (by decide +kernel) ?_
  refine q_ir C hm (by decide +kernel) (fun v2 hm => ?_)
  refine q_iconst C (n := 1) (v := 1) (by decide) (by decide +kernel) ?_
  refine q_icmp_ne C (off := 7) 14 hm (by decide +kernel) (by decide) (fun _ hm => ?_) (fun _ hm => ?_)
  · refine q_iconst C (n := 0) (v := 0) (by decide) (by decide +kernel) ?_
    exact q_riP hm K q_z0 (by decide +kernel)
  · refine q_iconst C (n := 1) (v := 1) (by decide) (by decide +kernel) ?_
    refine q_goto C (off := 4) 15 (by decide +kernel) (by decide) ?_
    exact q_riP hm K q_z1 (by decide +kernel)
def m_X12_isPuller (h0 : q_H) (a0 : Nat) (a1 : Int32) : Option Int32 :=
  if a1 < 0 then
    some ((0 : Int32))
  else
    (q_gn h0 a0 12 20).bind fun v1 =>
    (q_ai h0 v1 1 ((3 : Int32))).bind fun v2 =>
    if v2 ≤ a1 then
      some ((0 : Int32))
    else
      some ((1 : Int32))
set_option maxRecDepth 20000 in
set_option maxHeartbeats 1000000 in
theorem c_X12_isPuller (l : Launch) (base : Nat) (D : va_G) (tc : Nat → ClassId) (sz : Nat) (h0 : q_H) (a0 : Nat) (a1 : Int32) {r : Int32} (hm : m_X12_isPuller h0 a0 a1 = some r) : q_M l yX12_isPuller cX12_isPuller 2 (some .boolean) 0 0 0 0 base D tc [.ref a0, .int a1] sz h0 (some (.int r)) sz h0 := by
  refine q_starti (by decide) (Nat.le_of_ble_eq_true rfl) (fun Γ B K => ?_)
  obtain ⟨C, Rm, -⟩ := B
  have C : q_C Γ cX12_isPuller RX12 := C
  show q_V Γ sz 0 0 h0 [(0, .ref a0), (1, .int a1)] [] 0
  unfold m_X12_isPuller at hm
  refine q_iload_n C (k4 := 1) 1 rfl (by decide +kernel) ?_
  refine q_if_lt C (off := 17) 18 hm (by decide +kernel) (by decide) (fun _ hm => ?_) (fun _ hm => ?_)
  · refine q_iconst C (n := 0) (v := 0) (by decide) (by decide +kernel) ?_
    exact q_riP hm K q_z0 (by decide +kernel)
  · refine q_iload_n C (k4 := 1) 1 rfl (by decide +kernel) ?_
    refine q_aload_n C (k4 := 0) 0 rfl (by decide +kernel) ?_
    refine q_getn C fl_12_39 hm (by decide +kernel) (fun v1 hm => ?_)
    refine q_iconst C (n := 3) (v := 3) (by decide) (by decide +kernel) ?_
    refine q_ir C hm (by decide +kernel) (fun v2 hm => ?_)
    refine q_icmp_ge C (off := 7) 18 hm (by decide +kernel) (by decide) (fun _ hm => ?_) (fun _ hm => ?_)
    · refine q_iconst C (n := 0) (v := 0) (by decide) (by decide +kernel) ?_
      exact q_riP hm K q_z0 (by decide +kernel)
    · refine q_iconst C (n := 1) (v := 1) (by decide) (by decide +kernel) ?_
      refine q_goto C (off := 4) 19 (by decide +kernel) (by decide) ?_
      exact q_riP hm K q_z1 (by decide +kernel)
def m_X12_sideOf (h0 : q_H) (a0 : Nat) (a1 : Int32) : Option Int32 :=
  (q_gn h0 a0 12 20).bind fun v1 =>
  (q_ai h0 v1 1 (((12 : Int32) + ((5 : Int32) * a1)))).bind fun v2 =>
  some v2
set_option maxRecDepth 20000 in
set_option maxHeartbeats 1000000 in
theorem c_X12_sideOf (l : Launch) (base : Nat) (D : va_G) (tc : Nat → ClassId) (sz : Nat) (h0 : q_H) (a0 : Nat) (a1 : Int32) {r : Int32} (hm : m_X12_sideOf h0 a0 a1 = some r) : q_M l yX12_sideOf cX12_sideOf 2 (some .int) 0 0 0 0 base D tc [.ref a0, .int a1] sz h0 (some (.int r)) sz h0 := by
  refine q_starti (by decide) (Nat.le_of_ble_eq_true rfl) (fun Γ B K => ?_)
  obtain ⟨C, Rm, -⟩ := B
  have C : q_C Γ cX12_sideOf RX12 := C
  show q_V Γ sz 0 0 h0 [(0, .ref a0), (1, .int a1)] [] 0
  unfold m_X12_sideOf at hm
  refine q_aload_n C (k4 := 0) 0 rfl (by decide +kernel) ?_
  refine q_getn C fl_12_39 hm (by decide +kernel) (fun v1 hm => ?_)
  refine q_bipush C (n := 12) (v := 12) (by decide) (by decide +kernel) ?_
  refine q_iconst C (n := 5) (v := 5) (by decide) (by decide +kernel) ?_
  refine q_iload_n C (k4 := 1) 1 rfl (by decide +kernel) ?_
  refine q_imul C (by decide +kernel) ?_
  refine q_iadd C (by decide +kernel) ?_
  refine q_ir C hm (by decide +kernel) (fun v2 hm => ?_)
  exact q_riP hm K rfl (by decide +kernel)
def m_X12_placeOf (h0 : q_H) (a0 : Nat) (a1 : Int32) : Option Int32 :=
  (q_gn h0 a0 12 20).bind fun v1 =>
  (q_ai h0 v1 1 ((((12 : Int32) + ((5 : Int32) * a1)) + (1 : Int32)))).bind fun v2 =>
  some v2
set_option maxRecDepth 20000 in
set_option maxHeartbeats 1000000 in
theorem c_X12_placeOf (l : Launch) (base : Nat) (D : va_G) (tc : Nat → ClassId) (sz : Nat) (h0 : q_H) (a0 : Nat) (a1 : Int32) {r : Int32} (hm : m_X12_placeOf h0 a0 a1 = some r) : q_M l yX12_placeOf cX12_placeOf 2 (some .int) 0 0 0 0 base D tc [.ref a0, .int a1] sz h0 (some (.int r)) sz h0 := by
  refine q_starti (by decide) (Nat.le_of_ble_eq_true rfl) (fun Γ B K => ?_)
  obtain ⟨C, Rm, -⟩ := B
  have C : q_C Γ cX12_placeOf RX12 := C
  show q_V Γ sz 0 0 h0 [(0, .ref a0), (1, .int a1)] [] 0
  unfold m_X12_placeOf at hm
  refine q_aload_n C (k4 := 0) 0 rfl (by decide +kernel) ?_
  refine q_getn C fl_12_39 hm (by decide +kernel) (fun v1 hm => ?_)
  refine q_bipush C (n := 12) (v := 12) (by decide) (by decide +kernel) ?_
  refine q_iconst C (n := 5) (v := 5) (by decide) (by decide +kernel) ?_
  refine q_iload_n C (k4 := 1) 1 rfl (by decide +kernel) ?_
  refine q_imul C (by decide +kernel) ?_
  refine q_iadd C (by decide +kernel) ?_
  refine q_iconst C (n := 1) (v := 1) (by decide) (by decide +kernel) ?_
  refine q_iadd C (by decide +kernel) ?_
  refine q_ir C hm (by decide +kernel) (fun v2 hm => ?_)
  exact q_riP hm K rfl (by decide +kernel)
