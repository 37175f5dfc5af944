def m_X11_note_41  (h : q_H) (x0 : Nat) (x1 : Int32) (x2 : Int32) (s0 : Int32) : Option (Int32 × q_H) :=
  if s0 = 0 then
    some ((-2 : Int32), h)
  else
    (q_gn h x0 11 5).bind fun v3 =>
    (q_go h v3 0 0).bind fun v4 =>
    if v4 = none then
      some ((-2 : Int32), h)
    else
      (q_gn h x0 11 5).bind fun v5 =>
      (q_gi h v5 0 4).bind fun v6 =>
      if v6 < (10 : Int32) then
        (q_gn h x0 11 5).bind fun v7 =>
        (q_ca 0 h v7 (m_X0_addNote h v7 x1 ((x2 - (100 : Int32))))).bind fun h9 =>
        (q_gn h9 x0 11 5).bind fun v10 =>
        (q_gi h9 v10 0 4).bind fun v11 =>
        some (v11, h9)
      else
        some ((-2 : Int32), h)
set_option maxRecDepth 20000 in
set_option maxHeartbeats 1000000 in
theorem v_X11_note_41 {Γ : q_G} {sz : Nat} {r : Int32} {h' : q_H} (C : q_C Γ cX11_note RX11) (Rm : q_Rm Γ 4 1 22 0 0)  (K : narrow .int (.int r) = .int r → q_K Γ cX11_note .ireturn sz h' 0 0 [.int r])  : ∀ (h : q_H) (x0 : Nat) (x1 : Int32) (x2 : Int32) (s0 : Int32), m_X11_note_41 h x0 x1 x2 s0 = some (r, h') → q_V Γ sz 0 0 h [(0, .ref x0), (1, .int x1), (2, .int x2)] [.int s0] 41 := by
  intro h x0 x1 x2 s0 hm
  unfold m_X11_note_41 at hm
  refine q_istore_n C Rm.1 (k4 := 3) (i := 3) rfl (lv' := [(3, .int s0), (0, .ref x0), (1, .int x1), (2, .int x2)]) rfl (by decide) (by decide +kernel) ?_
  refine q_iload_n C (k4 := 3) 0 rfl (by decide +kernel) ?_
  refine q_if_eq C (off := 25) 68 hm (by decide +kernel) (by decide) (fun _ hm => ?_) (fun _ hm => ?_)
  · refine q_bipush C (n := (-2)) (v := (-2)) (by decide) (by decide +kernel) ?_
    exact q_riS hm K rfl (by decide +kernel)
  · refine q_aload_n C (k4 := 0) 1 rfl (by decide +kernel) ?_
    refine q_getn C fl_11_50 hm (by decide +kernel) (fun v3 hm => ?_)
    refine q_geto C fl_11_99 hm (by decide +kernel) (fun v4 hm => ?_)
    refine q_ifnull C (off := 15) 68 hm (by decide +kernel) (by decide) (fun _ hm => ?_) (fun _ hm => ?_)
    · refine q_bipush C (n := (-2)) (v := (-2)) (by decide) (by decide +kernel) ?_
      exact q_riS hm K rfl (by decide +kernel)
    · refine q_aload_n C (k4 := 0) 1 rfl (by decide +kernel) ?_
      refine q_getn C fl_11_50 hm (by decide +kernel) (fun v5 hm => ?_)
      refine q_geti C fl_11_113 hm (by decide +kernel) (fun v6 hm => ?_)
      refine q_bipush C (n := 10) (v := 10) (by decide) (by decide +kernel) ?_
      refine q_icmp_lt C (off := 6) 71 hm (by decide +kernel) (by decide) (fun _ hm => ?_) (fun _ hm => ?_)
      · refine q_aload_n C (k4 := 0) 1 rfl (by decide +kernel) ?_
        refine q_getn C fl_11_50 hm (by decide +kernel) (fun v7 hm => ?_)
        refine q_iload_n C (k4 := 1) 2 rfl (by decide +kernel) ?_
        refine q_iload_n C (k4 := 2) 3 rfl (by decide +kernel) ?_
        refine q_bipush C (n := 100) (v := 100) (by decide) (by decide +kernel) ?_
        refine q_isub C (by decide +kernel) ?_
        refine q_vvS C Rm (As := [.int x1, .int ((x2 - (100 : Int32)))]) (rest := []) Y_X0_addNote Yv_X0_addNote ml_X11_254 (by decide) (by decide) hm (fun h9 e9 => c_X0_addNote _ _ _ _ _ _ _ _ _ e9) rfl rfl (Nat.le_of_ble_eq_true rfl) (by decide +kernel) (fun h9 hm => ?_)
        refine q_aload_n C (k4 := 0) 1 rfl (by decide +kernel) ?_
        refine q_getn C fl_11_50 hm (by decide +kernel) (fun v10 hm => ?_)
        refine q_geti C fl_11_113 hm (by decide +kernel) (fun v11 hm => ?_)
        exact q_riS hm K rfl (by decide +kernel)
      · refine q_bipush C (n := (-2)) (v := (-2)) (by decide) (by decide +kernel) ?_
        exact q_riS hm K rfl (by decide +kernel)
def m_X11_note_40  (h : q_H) (x0 : Nat) (x1 : Int32) (x2 : Int32) : Option (Int32 × q_H) :=
  m_X11_note_41 h x0 x1 x2 ((0 : Int32))
set_option maxRecDepth 20000 in
set_option maxHeartbeats 1000000 in
theorem v_X11_note_40 {Γ : q_G} {sz : Nat} {r : Int32} {h' : q_H} (C : q_C Γ cX11_note RX11) (Rm : q_Rm Γ 4 1 22 0 0)  (K : narrow .int (.int r) = .int r → q_K Γ cX11_note .ireturn sz h' 0 0 [.int r])  : ∀ (h : q_H) (x0 : Nat) (x1 : Int32) (x2 : Int32), m_X11_note_40 h x0 x1 x2 = some (r, h') → q_V Γ sz 0 0 h [(0, .ref x0), (1, .int x1), (2, .int x2)] [] 40 := by
  intro h x0 x1 x2 hm
  unfold m_X11_note_40 at hm
  refine q_iconst C (n := 0) (v := 0) (by decide) (by decide +kernel) ?_
  exact v_X11_note_41 C Rm K _ _ _ _ _ hm
def m_X11_note (h : q_H) (a0 : Nat) (a1 : Int32) (a2 : Int32) : Option (Int32 × q_H) :=
  if a1 = (-1 : Int32) then
    (q_gn h a0 11 5).bind fun v1 =>
    (q_pf h v1 0 4 (.int ((0 : Int32)))).bind fun h2 =>
    some ((0 : Int32), h2)
  else
    if a1 < 0 then
      m_X11_note_40 h a0 a1 a2
    else
      if (60 : Int32) < a1 then
        m_X11_note_40 h a0 a1 a2
      else
        if a2 < 0 then
          m_X11_note_40 h a0 a1 a2
        else
          if (200 : Int32) < a2 then
            m_X11_note_40 h a0 a1 a2
          else
            m_X11_note_41 h a0 a1 a2 ((1 : Int32))
set_option maxRecDepth 20000 in
set_option maxHeartbeats 1000000 in
theorem c_X11_note (l : Launch) (base : Nat) (D : va_G) (tc : Nat → ClassId) (sz : Nat) (h : q_H) (a0 : Nat) (a1 : Int32) (a2 : Int32) {r : Int32} {h' : q_H} (hm : m_X11_note h a0 a1 a2 = some (r, h')) : q_M l yX11_note cX11_note 4 (some .int) 1 22 0 0 base D tc [.ref a0, .int a1, .int a2] sz h (some (.int r)) sz h' := by
  refine q_starti (by decide) (Nat.le_of_ble_eq_true rfl) (fun Γ B K => ?_)
  obtain ⟨C, Rm, -⟩ := B
  have C : q_C Γ cX11_note RX11 := C
  show q_V Γ sz 0 0 h [(0, .ref a0), (1, .int a1), (2, .int a2)] [] 0
  unfold m_X11_note at hm
  refine q_iload_n C (k4 := 1) 1 rfl (by decide +kernel) ?_
  refine q_iconst C (n := (-1)) (v := (-1)) (by decide) (by decide +kernel) ?_
  refine q_icmp_ne C (off := 13) 15 hm (by decide +kernel) (by decide) (fun _ hm => ?_) (fun _ hm => ?_)
  · refine q_iload_n C (k4 := 1) 1 rfl (by decide +kernel) ?_
    refine q_if_lt C (off := 24) 40 hm (by decide +kernel) (by decide) (fun _ hm => ?_) (fun _ hm => ?_)
    · exact v_X11_note_40 C Rm K _ _ _ _ hm
    · refine q_iload_n C (k4 := 1) 1 rfl (by decide +kernel) ?_
      refine q_bipush C (n := 60) (v := 60) (by decide) (by decide +kernel) ?_
      refine q_icmp_gt C (off := 18) 40 hm (by decide +kernel) (by decide) (fun _ hm => ?_) (fun _ hm => ?_)
      · exact v_X11_note_40 C Rm K _ _ _ _ hm
      · refine q_iload_n C (k4 := 2) 2 rfl (by decide +kernel) ?_
        refine q_if_lt C (off := 14) 40 hm (by decide +kernel) (by decide) (fun _ hm => ?_) (fun _ hm => ?_)
        · exact v_X11_note_40 C Rm K _ _ _ _ hm
        · refine q_iload_n C (k4 := 2) 2 rfl (by decide +kernel) ?_
          refine q_sipush C (n := 200) (v := 200) (by decide) (by decide +kernel) ?_
          refine q_icmp_gt C (off := 7) 40 hm (by decide +kernel) (by decide) (fun _ hm => ?_) (fun _ hm => ?_)
          · exact v_X11_note_40 C Rm K _ _ _ _ hm
          · refine q_iconst C (n := 1) (v := 1) (by decide) (by decide +kernel) ?_
            refine q_goto C (off := 4) 41 (by decide +kernel) (by decide) ?_
            exact v_X11_note_41 C Rm K _ _ _ _ _ hm
  · refine q_aload_n C (k4 := 0) 0 rfl (by decide +kernel) ?_
    refine q_getn C fl_11_50 hm (by decide +kernel) (fun v1 hm => ?_)
    refine q_iconst C (n := 0) (v := 0) (by decide) (by decide +kernel) ?_
    refine q_putf C fl_11_113 hm rfl rfl (by decide +kernel) (fun h2 hm => ?_)
    refine q_iconst C (n := 0) (v := 0) (by decide) (by decide +kernel) ?_
    exact q_riS hm K rfl (by decide +kernel)
def m_X11_ruled (h : q_H) (a0 : Nat) (a1 : Int32) : Option (Int32 × q_H) :=
  (q_gn h a0 11 5).bind fun v1 =>
  (q_go h v1 0 0).bind fun v2 =>
  if v2 = none then
    some ((-3 : Int32), h)
  else
    if a1 < 0 then
      some ((-3 : Int32), h)
    else
      if a1 ≤ (1 : Int32) then
        (q_gn h a0 11 9).bind fun v3 =>
        (q_gi h a0 11 4).bind fun v4 =>
        (q_ca 8 h v3 (m_X8_rulesThatFit h v3 v4 a1)).bind fun (r5, h6) =>
        some (r5, h6)
      else
        some ((-3 : Int32), h)
set_option maxRecDepth 20000 in
set_option maxHeartbeats 1000000 in
theorem c_X11_ruled (l : Launch) (base : Nat) (D : va_G) (tc : Nat → ClassId) (sz : Nat) (h : q_H) (a0 : Nat) (a1 : Int32) {r : Int32} {h' : q_H} (hm : m_X11_ruled h a0 a1 = some (r, h')) : q_M l yX11_ruled cX11_ruled 2 (some .int) 7 180 0 0 base D tc [.ref a0, .int a1] sz h (some (.int r)) sz h' := by
  refine q_starti (by decide) (Nat.le_of_ble_eq_true rfl) (fun Γ B K => ?_)
  obtain ⟨C, Rm, -⟩ := B
  have C : q_C Γ cX11_ruled RX11 := C
  show q_V Γ sz 0 0 h [(0, .ref a0), (1, .int a1)] [] 0
  unfold m_X11_ruled at hm
  refine q_aload_n C (k4 := 0) 0 rfl (by decide +kernel) ?_
  refine q_getn C fl_11_50 hm (by decide +kernel) (fun v1 hm => ?_)
  refine q_geto C fl_11_99 hm (by decide +kernel) (fun v2 hm => ?_)
  refine q_ifnull C (off := 12) 19 hm (by decide +kernel) (by decide) (fun _ hm => ?_) (fun _ hm => ?_)
  · refine q_bipush C (n := (-3)) (v := (-3)) (by decide) (by decide +kernel) ?_
    exact q_riS hm K rfl (by decide +kernel)
  · refine q_iload_n C (k4 := 1) 1 rfl (by decide +kernel) ?_
    refine q_if_lt C (off := 8) 19 hm (by decide +kernel) (by decide) (fun _ hm => ?_) (fun _ hm => ?_)
    · refine q_bipush C (n := (-3)) (v := (-3)) (by decide) (by decide +kernel) ?_
      exact q_riS hm K rfl (by decide +kernel)
    · refine q_iload_n C (k4 := 1) 1 rfl (by decide +kernel) ?_
      refine q_iconst C (n := 1) (v := 1) (by decide) (by decide +kernel) ?_
      refine q_icmp_le C (off := 6) 22 hm (by decide +kernel) (by decide) (fun _ hm => ?_) (fun _ hm => ?_)
      · refine q_aload_n C (k4 := 0) 0 rfl (by decide +kernel) ?_
        refine q_getn C fl_11_77 hm (by decide +kernel) (fun v3 hm => ?_)
        refine q_aload_n C (k4 := 0) 0 rfl (by decide +kernel) ?_
        refine q_geti C fl_11_43 hm (by decide +kernel) (fun v4 hm => ?_)
        refine q_iload_n C (k4 := 1) 1 rfl (by decide +kernel) ?_
        refine q_viS C Rm (As := [.int v4, .int a1]) (rest := []) Y_X8_rulesThatFit Yv_X8_rulesThatFit ml_X11_257 (by decide) (by decide) hm (fun r5 h6 e9 => c_X8_rulesThatFit _ _ _ _ _ _ _ _ _ e9) rfl rfl (Nat.le_of_ble_eq_true rfl) (by decide +kernel) (fun r5 h6 hm z7 => ?_)
        exact q_riS hm K rfl (by decide +kernel)
      · refine q_bipush C (n := (-3)) (v := (-3)) (by decide) (by decide +kernel) ?_
        exact q_riS hm K rfl (by decide +kernel)
def m_X11_look (h : q_H) (a0 : Nat) (a1 : Int32) : Option (Int32 × q_H) :=
  (q_gn h a0 11 5).bind fun v1 =>
  (q_go h v1 0 0).bind fun v2 =>
  if v2 = none then
    some ((-1 : Int32), h)
  else
    if a1 < 0 then
      some ((-1 : Int32), h)
    else
      if a1 ≤ (1 : Int32) then
        (q_gn h a0 11 9).bind fun v3 =>
        (q_gi h a0 11 4).bind fun v4 =>
        (q_ca 8 h v3 (m_X8_bestPlaceToLook h v3 v4 a1)).bind fun (r5, h6) =>
        some (r5, h6)
      else
        some ((-1 : Int32), h)
set_option maxRecDepth 20000 in
set_option maxHeartbeats 1000000 in
theorem c_X11_look (l : Launch) (base : Nat) (D : va_G) (tc : Nat → ClassId) (sz : Nat) (h : q_H) (a0 : Nat) (a1 : Int32) {r : Int32} {h' : q_H} (hm : m_X11_look h a0 a1 = some (r, h')) : q_M l yX11_look cX11_look 2 (some .int) 7 182 0 0 base D tc [.ref a0, .int a1] sz h (some (.int r)) sz h' := by
  refine q_starti (by decide) (Nat.le_of_ble_eq_true rfl) (fun Γ B K => ?_)
  obtain ⟨C, Rm, -⟩ := B
  have C : q_C Γ cX11_look RX11 := C
  show q_V Γ sz 0 0 h [(0, .ref a0), (1, .int a1)] [] 0
  unfold m_X11_look at hm
  refine q_aload_n C (k4 := 0) 0 rfl (by decide +kernel) ?_
  refine q_getn C fl_11_50 hm (by decide +kernel) (fun v1 hm => ?_)
  refine q_geto C fl_11_99 hm (by decide +kernel) (fun v2 hm => ?_)
  refine q_ifnull C (off := 12) 19 hm (by decide +kernel) (by decide) (fun _ hm => ?_) (fun _ hm => ?_)
  · refine q_iconst C (n := (-1)) (v := (-1)) (by decide) (by decide +kernel) ?_
    exact q_riS hm K rfl (by decide +kernel)
  · refine q_iload_n C (k4 := 1) 1 rfl (by decide +kernel) ?_
    refine q_if_lt C (off := 8) 19 hm (by decide +kernel) (by decide) (fun _ hm => ?_) (fun _ hm => ?_)
    · refine q_iconst C (n := (-1)) (v := (-1)) (by decide) (by decide +kernel) ?_
      exact q_riS hm K rfl (by decide +kernel)
    · refine q_iload_n C (k4 := 1) 1 rfl (by decide +kernel) ?_
      refine q_iconst C (n := 1) (v := 1) (by decide) (by decide +kernel) ?_
      refine q_icmp_le C (off := 5) 21 hm (by decide +kernel) (by decide) (fun _ hm => ?_) (fun _ hm => ?_)
      · refine q_aload_n C (k4 := 0) 0 rfl (by decide +kernel) ?_
        refine q_getn C fl_11_77 hm (by decide +kernel) (fun v3 hm => ?_)
        refine q_aload_n C (k4 := 0) 0 rfl (by decide +kernel) ?_
        refine q_geti C fl_11_43 hm (by decide +kernel) (fun v4 hm => ?_)
        refine q_iload_n C (k4 := 1) 1 rfl (by decide +kernel) ?_
        refine q_viS C Rm (As := [.int v4, .int a1]) (rest := []) Y_X8_bestPlaceToLook Yv_X8_bestPlaceToLook ml_X11_260 (by decide) (by decide) hm (fun r5 h6 e9 => c_X8_bestPlaceToLook _ _ _ _ _ _ _ _ _ e9) rfl rfl (Nat.le_of_ble_eq_true rfl) (by decide +kernel) (fun r5 h6 hm z7 => ?_)
        exact q_riS hm K rfl (by decide +kernel)
      · refine q_iconst C (n := (-1)) (v := (-1)) (by decide) (by decide +kernel) ?_
        exact q_riS hm K rfl (by decide +kernel)
def m_X11_seed (h : q_H) (a0 : Nat) (a1 : Int32) : Option (Int32 × q_H) :=
  if 0 ≤ a1 then
    (q_gn h a0 11 5).bind fun v1 =>
    (q_gi h v1 0 3).bind fun v2 =>
    (q_gn h a0 11 5).bind fun v3 =>
    (q_pf h v3 0 3 (.int a1)).bind fun h4 =>
    some (v2, h4)
  else
    some ((-1 : Int32), h)
set_option maxRecDepth 20000 in
set_option maxHeartbeats 1000000 in
theorem c_X11_seed (l : Launch) (base : Nat) (D : va_G) (tc : Nat → ClassId) (sz : Nat) (h : q_H) (a0 : Nat) (a1 : Int32) {r : Int32} {h' : q_H} (hm : m_X11_seed h a0 a1 = some (r, h')) : q_M l yX11_seed cX11_seed 3 (some .int) 0 0 0 0 base D tc [.ref a0, .int a1] sz h (some (.int r)) sz h' := by
  refine q_starti (by decide) (Nat.le_of_ble_eq_true rfl) (fun Γ B K => ?_)
  obtain ⟨C, Rm, -⟩ := B
  have C : q_C Γ cX11_seed RX11 := C
  show q_V Γ sz 0 0 h [(0, .ref a0), (1, .int a1)] [] 0
  unfold m_X11_seed at hm
  refine q_iload_n C (k4 := 1) 1 rfl (by decide +kernel) ?_
  refine q_if_ge C (off := 5) 6 hm (by decide +kernel) (by decide) (fun _ hm => ?_) (fun _ hm => ?_)
  · refine q_aload_n C (k4 := 0) 0 rfl (by decide +kernel) ?_
    refine q_getn C fl_11_50 hm (by decide +kernel) (fun v1 hm => ?_)
    refine q_geti C fl_11_263 hm (by decide +kernel) (fun v2 hm => ?_)
    refine q_istore_n C Rm.1 (k4 := 2) (i := 2) rfl (lv' := [(2, .int v2), (0, .ref a0), (1, .int a1)]) rfl (by decide) (by decide +kernel) ?_
    refine q_aload_n C (k4 := 0) 1 rfl (by decide +kernel) ?_
    refine q_getn C fl_11_50 hm (by decide +kernel) (fun v3 hm => ?_)
    refine q_iload_n C (k4 := 1) 2 rfl (by decide +kernel) ?_
    refine q_putf C fl_11_263 hm rfl rfl (by decide +kernel) (fun h4 hm => ?_)
    refine q_iload_n C (k4 := 2) 0 rfl (by decide +kernel) ?_
    exact q_riS hm K rfl (by decide +kernel)
  · refine q_iconst C (n := (-1)) (v := (-1)) (by decide) (by decide +kernel) ?_
    exact q_riS hm K rfl (by decide +kernel)
def m_X11_rain (h : q_H) (a0 : Nat) (a1 : Int32) (a2 : Int32) (a3 : Int32) (a4 : Int32) : Option (Int32 × q_H) :=
  (q_gn h a0 11 5).bind fun v1 =>
  (q_go h v1 0 0).bind fun v2 =>
  if v2 = none then
    some ((-1 : Int32), h)
  else
    if a1 < (1 : Int32) then
      some ((-1 : Int32), h)
    else
      if (10 : Int32) < a1 then
        some ((-1 : Int32), h)
      else
        if a2 < (1 : Int32) then
          some ((-1 : Int32), h)
        else
          if a2 ≤ (60 : Int32) then
            if a3 < 0 then
              some ((-1 : Int32), h)
            else
              if (100 : Int32) < a3 then
                some ((-1 : Int32), h)
              else
                if a4 < 0 then
                  some ((-1 : Int32), h)
                else
                  if a4 ≤ (1 : Int32) then
                    (q_gn h a0 11 9).bind fun v3 =>
                    (q_ca 8 h v3 (m_X8_inRain h v3 a1 a2 a3 a4)).bind fun (r4, h5) =>
                    some (r4, h5)
                  else
                    some ((-1 : Int32), h)
          else
            some ((-1 : Int32), h)
set_option maxRecDepth 20000 in
set_option maxHeartbeats 1000000 in
theorem c_X11_rain (l : Launch) (base : Nat) (D : va_G) (tc : Nat → ClassId) (sz : Nat) (h : q_H) (a0 : Nat) (a1 : Int32) (a2 : Int32) (a3 : Int32) (a4 : Int32) {r : Int32} {h' : q_H} (hm : m_X11_rain h a0 a1 a2 a3 a4 = some (r, h')) : q_M l yX11_rain cX11_rain 5 (some .int) 6 160 0 0 base D tc [.ref a0, .int a1, .int a2, .int a3, .int a4] sz h (some (.int r)) sz h' := by
  refine q_starti (by decide) (Nat.le_of_ble_eq_true rfl) (fun Γ B K => ?_)
  obtain ⟨C, Rm, -⟩ := B
  have C : q_C Γ cX11_rain RX11 := C
  show q_V Γ sz 0 0 h [(0, .ref a0), (1, .int a1), (2, .int a2), (3, .int a3), (4, .int a4)] [] 0
  unfold m_X11_rain at hm
  refine q_aload_n C (k4 := 0) 0 rfl (by decide +kernel) ?_
  refine q_getn C fl_11_50 hm (by decide +kernel) (fun v1 hm => ?_)
  refine q_geto C fl_11_99 hm (by decide +kernel) (fun v2 hm => ?_)
  refine q_ifnull C (off := 25) 32 hm (by decide +kernel) (by decide) (fun _ hm => ?_) (fun _ hm => ?_)
  · refine q_iconst C (n := (-1)) (v := (-1)) (by decide) (by decide +kernel) ?_
    exact q_riS hm K rfl (by decide +kernel)
  · refine q_iload_n C (k4 := 1) 1 rfl (by decide +kernel) ?_
    refine q_iconst C (n := 1) (v := 1) (by decide) (by decide +kernel) ?_
    refine q_icmp_lt C (off := 20) 32 hm (by decide +kernel) (by decide) (fun _ hm => ?_) (fun _ hm => ?_)
    · refine q_iconst C (n := (-1)) (v := (-1)) (by decide) (by decide +kernel) ?_
      exact q_riS hm K rfl (by decide +kernel)
    · refine q_iload_n C (k4 := 1) 1 rfl (by decide +kernel) ?_
      refine q_bipush C (n := 10) (v := 10) (by decide) (by decide +kernel) ?_
      refine q_icmp_gt C (off := 14) 32 hm (by decide +kernel) (by decide) (fun _ hm => ?_) (fun _ hm => ?_)
      · refine q_iconst C (n := (-1)) (v := (-1)) (by decide) (by decide +kernel) ?_
        exact q_riS hm K rfl (by decide +kernel)
      · refine q_iload_n C (k4 := 2) 2 rfl (by decide +kernel) ?_
        refine q_iconst C (n := 1) (v := 1) (by decide) (by decide +kernel) ?_
        refine q_icmp_lt C (off := 9) 32 hm (by decide +kernel) (by decide) (fun _ hm => ?_) (fun _ hm => ?_)
        · refine q_iconst C (n := (-1)) (v := (-1)) (by decide) (by decide +kernel) ?_
          exact q_riS hm K rfl (by decide +kernel)
        · refine q_iload_n C (k4 := 2) 2 rfl (by decide +kernel) ?_
          refine q_bipush C (n := 60) (v := 60) (by decide) (by decide +kernel) ?_
          refine q_icmp_le C (off := 5) 34 hm (by decide +kernel) (by decide) (fun _ hm => ?_) (fun _ hm => ?_)
          · refine q_iload_n C (k4 := 3) 3 rfl (by decide +kernel) ?_
            refine q_if_lt C (off := 20) 55 hm (by decide +kernel) (by decide) (fun _ hm => ?_) (fun _ hm => ?_)
            · refine q_iconst C (n := (-1)) (v := (-1)) (by decide) (by decide +kernel) ?_
              exact q_riS hm K rfl (by decide +kernel)
            · refine q_iload_n C (k4 := 3) 3 rfl (by decide +kernel) ?_
              refine q_bipush C (n := 100) (v := 100) (by decide) (by decide +kernel) ?_
              refine q_icmp_gt C (off := 14) 55 hm (by decide +kernel) (by decide) (fun _ hm => ?_) (fun _ hm => ?_)
              · refine q_iconst C (n := (-1)) (v := (-1)) (by decide) (by decide +kernel) ?_
                exact q_riS hm K rfl (by decide +kernel)
              · refine q_iload C (i := 4) 4 rfl (by decide +kernel) ?_
                refine q_if_lt C (off := 9) 55 hm (by decide +kernel) (by decide) (fun _ hm => ?_) (fun _ hm => ?_)
                · refine q_iconst C (n := (-1)) (v := (-1)) (by decide) (by decide +kernel) ?_
                  exact q_riS hm K rfl (by decide +kernel)
                · refine q_iload C (i := 4) 4 rfl (by decide +kernel) ?_
                  refine q_iconst C (n := 1) (v := 1) (by decide) (by decide +kernel) ?_
                  refine q_icmp_le C (off := 5) 57 hm (by decide +kernel) (by decide) (fun _ hm => ?_) (fun _ hm => ?_)
                  · refine q_aload_n C (k4 := 0) 0 rfl (by decide +kernel) ?_
                    refine q_getn C fl_11_77 hm (by decide +kernel) (fun v3 hm => ?_)
                    refine q_iload_n C (k4 := 1) 1 rfl (by decide +kernel) ?_
                    refine q_iload_n C (k4 := 2) 2 rfl (by decide +kernel) ?_
                    refine q_iload_n C (k4 := 3) 3 rfl (by decide +kernel) ?_
                    refine q_iload C (i := 4) 4 rfl (by decide +kernel) ?_
                    refine q_viS C Rm (As := [.int a1, .int a2, .int a3, .int a4]) (rest := []) Y_X8_inRain Yv_X8_inRain ml_X11_266 (by decide) (by decide) hm (fun r4 h5 e9 => c_X8_inRain _ _ _ _ _ _ _ _ _ _ _ e9) rfl rfl (Nat.le_of_ble_eq_true rfl) (by decide +kernel) (fun r4 h5 hm z6 => ?_)
                    exact q_riS hm K rfl (by decide +kernel)
                  · refine q_iconst C (n := (-1)) (v := (-1)) (by decide) (by decide +kernel) ?_
                    exact q_riS hm K rfl (by decide +kernel)
          · refine q_iconst C (n := (-1)) (v := (-1)) (by decide) (by decide +kernel) ?_
            exact q_riS hm K rfl (by decide +kernel)
def m_X11_count (h0 : q_H) (a0 : Nat) (a1 : Int32) : Option Int32 :=
  if a1 = 0 then
    (q_gn h0 a0 11 5).bind fun v1 =>
    (q_go h0 v1 0 0).bind fun v2 =>
    if v2 = none then
      some ((0 : Int32))
    else
      (q_gn h0 a0 11 5).bind fun v3 =>
      (q_gn h0 v3 0 0).bind fun v4 =>
      (q_gi h0 v4 4 0).bind fun v5 =>
      some v5
  else
  if a1 = 1 then
    (q_gn h0 a0 11 5).bind fun v6 =>
    (q_go h0 v6 0 0).bind fun v7 =>
    if v7 = none then
      some ((0 : Int32))
    else
      (q_gn h0 a0 11 5).bind fun v8 =>
      (q_gn h0 v8 0 0).bind fun v9 =>
      (q_gi h0 v9 4 1).bind fun v10 =>
      some v10
  else
  if a1 = 2 then
    (q_gn h0 a0 11 5).bind fun v11 =>
    (q_ca 0 h0 v11 (m_X0_pullers h0 v11)).bind fun r12 =>
    some r12
  else
  if a1 = 3 then
    (q_gi h0 a0 11 4).bind fun v14 =>
    some v14
  else
  if a1 = 4 then
    (q_gn h0 a0 11 5).bind fun v15 =>
    (q_gi h0 v15 0 2).bind fun v16 =>
    some v16
  else
  if a1 = 5 then
    (q_gn h0 a0 11 5).bind fun v17 =>
    (q_gn h0 v17 0 1).bind fun v18 =>
    (q_gi h0 v18 10 1).bind fun v19 =>
    some v19
  else
  if a1 = 6 then
    (q_gn h0 a0 11 5).bind fun v20 =>
    (q_gn h0 v20 0 1).bind fun v21 =>
    (q_gn h0 a0 11 5).bind fun v22 =>
    (q_ca 0 h0 v22 (m_X0_pullers h0 v22)).bind fun r23 =>
    (q_ca 10 h0 v21 (m_X10_setOnSide h0 v21 ((0 : Int32)) r23)).bind fun r25 =>
    some r25
  else
  if a1 = 7 then
    (q_gn h0 a0 11 5).bind fun v27 =>
    (q_gn h0 v27 0 1).bind fun v28 =>
    (q_gi h0 v28 10 2).bind fun v29 =>
    some v29
  else
  if a1 = 8 then
    (q_gn h0 a0 11 5).bind fun v30 =>
    (q_go h0 v30 0 0).bind fun v31 =>
    if v31 = none then
      some ((0 : Int32))
    else
      (q_gn h0 a0 11 5).bind fun v32 =>
      (q_gn h0 v32 0 1).bind fun v33 =>
      (q_gn h0 a0 11 5).bind fun v34 =>
      (q_gn h0 v34 0 0).bind fun v35 =>
      (q_gi h0 v35 4 0).bind fun v36 =>
      (q_ca 10 h0 v33 (m_X10_isOver h0 v33 v36)).bind fun r37 =>
      if r37 = 0 then
        some ((0 : Int32))
      else
        some ((1 : Int32))
  else
  if a1 = 9 then
    (q_gn h0 a0 11 5).bind fun v39 =>
    (q_gn h0 v39 0 1).bind fun v40 =>
    (q_gn h0 a0 11 5).bind fun v41 =>
    (q_ca 0 h0 v41 (m_X0_pullers h0 v41)).bind fun r42 =>
    (q_ca 10 h0 v40 (m_X10_workedTogether h0 v40 r42)).bind fun r44 =>
    some r44
  else
  if a1 = 10 then
    (q_gn h0 a0 11 5).bind fun v46 =>
    (q_gi h0 v46 0 4).bind fun v47 =>
    some v47
  else
  if a1 = 11 then
    (q_gn h0 a0 11 6).bind fun v48 =>
    (q_gi h0 v48 2 2).bind fun v49 =>
    some v49
  else
  if a1 = 12 then
    (q_gn h0 a0 11 5).bind fun v50 =>
    (q_gi h0 v50 0 3).bind fun v51 =>
    some v51
  else
  if a1 = 13 then
    (q_gn h0 a0 11 0).bind fun v52 =>
    (q_gi h0 v52 9 1).bind fun v53 =>
    some v53
  else
  some ((-1 : Int32))
set_option maxRecDepth 20000 in
set_option maxHeartbeats 1000000 in
theorem c_X11_count (l : Launch) (base : Nat) (D : va_G) (tc : Nat → ClassId) (sz : Nat) (h0 : q_H) (a0 : Nat) (a1 : Int32) {r : Int32} (hm : m_X11_count h0 a0 a1 = some r) : q_M l yX11_count cX11_count 2 (some .int) 1 24 0 0 base D tc [.ref a0, .int a1] sz h0 (some (.int r)) sz h0 := by
  refine q_starti (by decide) (Nat.le_of_ble_eq_true rfl) (fun Γ B K => ?_)
  obtain ⟨C, Rm, -⟩ := B
  have C : q_C Γ cX11_count RX11 := C
  show q_V Γ sz 0 0 h0 [(0, .ref a0), (1, .int a1)] [] 0
  unfold m_X11_count at hm
  refine q_iload_n C (k4 := 1) 1 rfl (by decide +kernel) ?_
  by_cases c1_0 : a1 = 0
  · rw [if_pos c1_0] at hm
    refine q_tsIn C (dflt := 272) (lo := 0) (hi := 13) (offs := #[71, 96, 121, 129, 134, 142, 153, 172, 183, 222, 240, 248, 256, 264]) (len := 71) (71) 72 (by decide +kernel) (by rw [c1_0]; decide) (by rw [c1_0]; decide) (by rw [c1_0]; decide) (by decide) ?_
    refine q_aload_n C (k4 := 0) 0 rfl (by decide +kernel) ?_
    refine q_getn C fl_11_50 hm (by decide +kernel) (fun v1 hm => ?_)
    refine q_geto C fl_11_99 hm (by decide +kernel) (fun v2 hm => ?_)
    refine q_ifnonnull C (off := 7) 86 hm (by decide +kernel) (by decide) (fun _ hm => ?_) (fun _ hm => ?_)
    · refine q_aload_n C (k4 := 0) 0 rfl (by decide +kernel) ?_
      refine q_getn C fl_11_50 hm (by decide +kernel) (fun v3 hm => ?_)
      refine q_getn C fl_11_99 hm (by decide +kernel) (fun v4 hm => ?_)
      refine q_geti C fl_11_191 hm (by decide +kernel) (fun v5 hm => ?_)
      exact q_riP hm K rfl (by decide +kernel)
    · refine q_iconst C (n := 0) (v := 0) (by decide) (by decide +kernel) ?_
      refine q_goto C (off := 13) 96 (by decide +kernel) (by decide) ?_
      exact q_riP hm K rfl (by decide +kernel)
  rw [if_neg c1_0] at hm
  by_cases c1_1 : a1 = 1
  · rw [if_pos c1_1] at hm
    refine q_tsIn C (dflt := 272) (lo := 0) (hi := 13) (offs := #[71, 96, 121, 129, 134, 142, 153, 172, 183, 222, 240, 248, 256, 264]) (len := 71) (96) 97 (by decide +kernel) (by rw [c1_1]; decide) (by rw [c1_1]; decide) (by rw [c1_1]; decide) (by decide) ?_
    refine q_aload_n C (k4 := 0) 0 rfl (by decide +kernel) ?_
    refine q_getn C fl_11_50 hm (by decide +kernel) (fun v6 hm => ?_)
    refine q_geto C fl_11_99 hm (by decide +kernel) (fun v7 hm => ?_)
    refine q_ifnonnull C (off := 7) 111 hm (by decide +kernel) (by decide) (fun _ hm => ?_) (fun _ hm => ?_)
    · refine q_aload_n C (k4 := 0) 0 rfl (by decide +kernel) ?_
      refine q_getn C fl_11_50 hm (by decide +kernel) (fun v8 hm => ?_)
      refine q_getn C fl_11_99 hm (by decide +kernel) (fun v9 hm => ?_)
      refine q_geti C fl_11_269 hm (by decide +kernel) (fun v10 hm => ?_)
      exact q_riP hm K rfl (by decide +kernel)
    · refine q_iconst C (n := 0) (v := 0) (by decide) (by decide +kernel) ?_
      refine q_goto C (off := 13) 121 (by decide +kernel) (by decide) ?_
      exact q_riP hm K rfl (by decide +kernel)
  rw [if_neg c1_1] at hm
  by_cases c1_2 : a1 = 2
  · rw [if_pos c1_2] at hm
    refine q_tsIn C (dflt := 272) (lo := 0) (hi := 13) (offs := #[71, 96, 121, 129, 134, 142, 153, 172, 183, 222, 240, 248, 256, 264]) (len := 71) (121) 122 (by decide +kernel) (by rw [c1_2]; decide) (by rw [c1_2]; decide) (by rw [c1_2]; decide) (by decide) ?_
    refine q_aload_n C (k4 := 0) 0 rfl (by decide +kernel) ?_
    refine q_getn C fl_11_50 hm (by decide +kernel) (fun v11 hm => ?_)
    refine q_viP C Rm (As := []) (rest := []) Y_X0_pullers Yv_X0_pullers ml_X11_272 (by decide) (by decide) hm (fun r9 e9 => c_X0_pullers _ _ _ _ _ _ _ e9) rfl rfl (Nat.le_of_ble_eq_true rfl) (by decide +kernel) (fun r12 hm z13 => ?_)
    exact q_riP hm K rfl (by decide +kernel)
  rw [if_neg c1_2] at hm
  by_cases c1_3 : a1 = 3
  · rw [if_pos c1_3] at hm
    refine q_tsIn C (dflt := 272) (lo := 0) (hi := 13) (offs := #[71, 96, 121, 129, 134, 142, 153, 172, 183, 222, 240, 248, 256, 264]) (len := 71) (129) 130 (by decide +kernel) (by rw [c1_3]; decide) (by rw [c1_3]; decide) (by rw [c1_3]; decide) (by decide) ?_
    refine q_aload_n C (k4 := 0) 0 rfl (by decide +kernel) ?_
    refine q_geti C fl_11_43 hm (by decide +kernel) (fun v14 hm => ?_)
    exact q_riP hm K rfl (by decide +kernel)
  rw [if_neg c1_3] at hm
  by_cases c1_4 : a1 = 4
  · rw [if_pos c1_4] at hm
    refine q_tsIn C (dflt := 272) (lo := 0) (hi := 13) (offs := #[71, 96, 121, 129, 134, 142, 153, 172, 183, 222, 240, 248, 256, 264]) (len := 71) (134) 135 (by decide +kernel) (by rw [c1_4]; decide) (by rw [c1_4]; decide) (by rw [c1_4]; decide) (by decide) ?_
    refine q_aload_n C (k4 := 0) 0 rfl (by decide +kernel) ?_
    refine q_getn C fl_11_50 hm (by decide +kernel) (fun v15 hm => ?_)
    refine q_geti C fl_11_129 hm (by decide +kernel) (fun v16 hm => ?_)
    exact q_riP hm K rfl (by decide +kernel)
  rw [if_neg c1_4] at hm
  by_cases c1_5 : a1 = 5
  · rw [if_pos c1_5] at hm
    refine q_tsIn C (dflt := 272) (lo := 0) (hi := 13) (offs := #[71, 96, 121, 129, 134, 142, 153, 172, 183, 222, 240, 248, 256, 264]) (len := 71) (142) 143 (by decide +kernel) (by rw [c1_5]; decide) (by rw [c1_5]; decide) (by rw [c1_5]; decide) (by decide) ?_
    refine q_aload_n C (k4 := 0) 0 rfl (by decide +kernel) ?_
    refine q_getn C fl_11_50 hm (by decide +kernel) (fun v17 hm => ?_)
    refine q_getn C fl_11_103 hm (by decide +kernel) (fun v18 hm => ?_)
    refine q_geti C fl_11_160 hm (by decide +kernel) (fun v19 hm => ?_)
    exact q_riP hm K rfl (by decide +kernel)
  rw [if_neg c1_5] at hm
  by_cases c1_6 : a1 = 6
  · rw [if_pos c1_6] at hm
    refine q_tsIn C (dflt := 272) (lo := 0) (hi := 13) (offs := #[71, 96, 121, 129, 134, 142, 153, 172, 183, 222, 240, 248, 256, 264]) (len := 71) (153) 154 (by decide +kernel) (by rw [c1_6]; decide) (by rw [c1_6]; decide) (by rw [c1_6]; decide) (by decide) ?_
    refine q_aload_n C (k4 := 0) 0 rfl (by decide +kernel) ?_
    refine q_getn C fl_11_50 hm (by decide +kernel) (fun v20 hm => ?_)
    refine q_getn C fl_11_103 hm (by decide +kernel) (fun v21 hm => ?_)
    refine q_iconst C (n := 0) (v := 0) (by decide) (by decide +kernel) ?_
    refine q_aload_n C (k4 := 0) 0 rfl (by decide +kernel) ?_
    refine q_getn C fl_11_50 hm (by decide +kernel) (fun v22 hm => ?_)
    refine q_viP C Rm (As := []) (rest := [.int ((0 : Int32)), .ref v21]) Y_X0_pullers Yv_X0_pullers ml_X11_272 (by decide) (by decide) hm (fun r9 e9 => c_X0_pullers _ _ _ _ _ _ _ e9) rfl rfl (Nat.le_of_ble_eq_true rfl) (by decide +kernel) (fun r23 hm z24 => ?_)
    refine q_viP C Rm (As := [.int ((0 : Int32)), .int r23]) (rest := []) Y_X10_setOnSide Yv_X10_setOnSide ml_X11_274 (by decide) (by decide) hm (fun r9 e9 => c_X10_setOnSide _ _ _ _ _ _ _ _ _ e9) rfl rfl (Nat.le_of_ble_eq_true rfl) (by decide +kernel) (fun r25 hm z26 => ?_)
    exact q_riP hm K rfl (by decide +kernel)
  rw [if_neg c1_6] at hm
  by_cases c1_7 : a1 = 7
  · rw [if_pos c1_7] at hm
    refine q_tsIn C (dflt := 272) (lo := 0) (hi := 13) (offs := #[71, 96, 121, 129, 134, 142, 153, 172, 183, 222, 240, 248, 256, 264]) (len := 71) (172) 173 (by decide +kernel) (by rw [c1_7]; decide) (by rw [c1_7]; decide) (by rw [c1_7]; decide) (by decide) ?_
    refine q_aload_n C (k4 := 0) 0 rfl (by decide +kernel) ?_
    refine q_getn C fl_11_50 hm (by decide +kernel) (fun v27 hm => ?_)
    refine q_getn C fl_11_103 hm (by decide +kernel) (fun v28 hm => ?_)
    refine q_geti C fl_11_277 hm (by decide +kernel) (fun v29 hm => ?_)
    exact q_riP hm K rfl (by decide +kernel)
  rw [if_neg c1_7] at hm
  by_cases c1_8 : a1 = 8
  · rw [if_pos c1_8] at hm
    refine q_tsIn C (dflt := 272) (lo := 0) (hi := 13) (offs := #[71, 96, 121, 129, 134, 142, 153, 172, 183, 222, 240, 248, 256, 264]) (len := 71) (183) 184 (by decide +kernel) (by rw [c1_8]; decide) (by rw [c1_8]; decide) (by rw [c1_8]; decide) (by decide) ?_
    refine q_aload_n C (k4 := 0) 0 rfl (by decide +kernel) ?_
    refine q_getn C fl_11_50 hm (by decide +kernel) (fun v30 hm => ?_)
    refine q_geto C fl_11_99 hm (by decide +kernel) (fun v31 hm => ?_)
    refine q_ifnull C (off := 30) 221 hm (by decide +kernel) (by decide) (fun _ hm => ?_) (fun _ hm => ?_)
    · refine q_iconst C (n := 0) (v := 0) (by decide) (by decide +kernel) ?_
      exact q_riP hm K rfl (by decide +kernel)
    · refine q_aload_n C (k4 := 0) 0 rfl (by decide +kernel) ?_
      refine q_getn C fl_11_50 hm (by decide +kernel) (fun v32 hm => ?_)
      refine q_getn C fl_11_103 hm (by decide +kernel) (fun v33 hm => ?_)
      refine q_aload_n C (k4 := 0) 0 rfl (by decide +kernel) ?_
      refine q_getn C fl_11_50 hm (by decide +kernel) (fun v34 hm => ?_)
      refine q_getn C fl_11_99 hm (by decide +kernel) (fun v35 hm => ?_)
      refine q_geti C fl_11_191 hm (by decide +kernel) (fun v36 hm => ?_)
      refine q_viP C Rm (As := [.int v36]) (rest := []) Y_X10_isOver Yv_X10_isOver ml_X11_280 (by decide) (by decide) hm (fun r9 e9 => c_X10_isOver _ _ _ _ _ _ _ _ e9) rfl rfl (Nat.le_of_ble_eq_true rfl) (by decide +kernel) (fun r37 hm z38 => ?_)
      refine q_if_eq C (off := 7) 221 hm (by decide +kernel) (by decide) (fun _ hm => ?_) (fun _ hm => ?_)
      · refine q_iconst C (n := 0) (v := 0) (by decide) (by decide +kernel) ?_
        exact q_riP hm K rfl (by decide +kernel)
      · refine q_iconst C (n := 1) (v := 1) (by decide) (by decide +kernel) ?_
        refine q_goto C (off := 4) 222 (by decide +kernel) (by decide) ?_
        exact q_riP hm K rfl (by decide +kernel)
  rw [if_neg c1_8] at hm
  by_cases c1_9 : a1 = 9
  · rw [if_pos c1_9] at hm
    refine q_tsIn C (dflt := 272) (lo := 0) (hi := 13) (offs := #[71, 96, 121, 129, 134, 142, 153, 172, 183, 222, 240, 248, 256, 264]) (len := 71) (222) 223 (by decide +kernel) (by rw [c1_9]; decide) (by rw [c1_9]; decide) (by rw [c1_9]; decide) (by decide) ?_
    refine q_aload_n C (k4 := 0) 0 rfl (by decide +kernel) ?_
    refine q_getn C fl_11_50 hm (by decide +kernel) (fun v39 hm => ?_)
    refine q_getn C fl_11_103 hm (by decide +kernel) (fun v40 hm => ?_)
    refine q_aload_n C (k4 := 0) 0 rfl (by decide +kernel) ?_
    refine q_getn C fl_11_50 hm (by decide +kernel) (fun v41 hm => ?_)
    refine q_viP C Rm (As := []) (rest := [.ref v40]) Y_X0_pullers Yv_X0_pullers ml_X11_272 (by decide) (by decide) hm (fun r9 e9 => c_X0_pullers _ _ _ _ _ _ _ e9) rfl rfl (Nat.le_of_ble_eq_true rfl) (by decide +kernel) (fun r42 hm z43 => ?_)
    refine q_viP C Rm (As := [.int r42]) (rest := []) Y_X10_workedTogether Yv_X10_workedTogether ml_X11_283 (by decide) (by decide) hm (fun r9 e9 => c_X10_workedTogether _ _ _ _ _ _ _ _ e9) rfl rfl (Nat.le_of_ble_eq_true rfl) (by decide +kernel) (fun r44 hm z45 => ?_)
    exact q_riP hm K rfl (by decide +kernel)
  rw [if_neg c1_9] at hm
  by_cases c1_10 : a1 = 10
  · rw [if_pos c1_10] at hm
    refine q_tsIn C (dflt := 272) (lo := 0) (hi := 13) (offs := #[71, 96, 121, 129, 134, 142, 153, 172, 183, 222, 240, 248, 256, 264]) (len := 71) (240) 241 (by decide +kernel) (by rw [c1_10]; decide) (by rw [c1_10]; decide) (by rw [c1_10]; decide) (by decide) ?_
    refine q_aload_n C (k4 := 0) 0 rfl (by decide +kernel) ?_
    refine q_getn C fl_11_50 hm (by decide +kernel) (fun v46 hm => ?_)
    refine q_geti C fl_11_113 hm (by decide +kernel) (fun v47 hm => ?_)
    exact q_riP hm K rfl (by decide +kernel)
  rw [if_neg c1_10] at hm
  by_cases c1_11 : a1 = 11
  · rw [if_pos c1_11] at hm
    refine q_tsIn C (dflt := 272) (lo := 0) (hi := 13) (offs := #[71, 96, 121, 129, 134, 142, 153, 172, 183, 222, 240, 248, 256, 264]) (len := 71) (248) 249 (by decide +kernel) (by rw [c1_11]; decide) (by rw [c1_11]; decide) (by rw [c1_11]; decide) (by decide) ?_
    refine q_aload_n C (k4 := 0) 0 rfl (by decide +kernel) ?_
    refine q_getn C fl_11_57 hm (by decide +kernel) (fun v48 hm => ?_)
    refine q_geti C fl_11_194 hm (by decide +kernel) (fun v49 hm => ?_)
    exact q_riP hm K rfl (by decide +kernel)
  rw [if_neg c1_11] at hm
  by_cases c1_12 : a1 = 12
  · rw [if_pos c1_12] at hm
    refine q_tsIn C (dflt := 272) (lo := 0) (hi := 13) (offs := #[71, 96, 121, 129, 134, 142, 153, 172, 183, 222, 240, 248, 256, 264]) (len := 71) (256) 257 (by decide +kernel) (by rw [c1_12]; decide) (by rw [c1_12]; decide) (by rw [c1_12]; decide) (by decide) ?_
    refine q_aload_n C (k4 := 0) 0 rfl (by decide +kernel) ?_
    refine q_getn C fl_11_50 hm (by decide +kernel) (fun v50 hm => ?_)
    refine q_geti C fl_11_263 hm (by decide +kernel) (fun v51 hm => ?_)
    exact q_riP hm K rfl (by decide +kernel)
  rw [if_neg c1_12] at hm
  by_cases c1_13 : a1 = 13
  · rw [if_pos c1_13] at hm
    refine q_tsIn C (dflt := 272) (lo := 0) (hi := 13) (offs := #[71, 96, 121, 129, 134, 142, 153, 172, 183, 222, 240, 248, 256, 264]) (len := 71) (264) 265 (by decide +kernel) (by rw [c1_13]; decide) (by rw [c1_13]; decide) (by rw [c1_13]; decide) (by decide) ?_
    refine q_aload_n C (k4 := 0) 0 rfl (by decide +kernel) ?_
    refine q_getn C fl_11_10 hm (by decide +kernel) (fun v52 hm => ?_)
    refine q_geti C fl_11_89 hm (by decide +kernel) (fun v53 hm => ?_)
    exact q_riP hm K rfl (by decide +kernel)
  rw [if_neg c1_13] at hm
  have nc1_0 := lv_neT c1_0 (show (0 : Int32).toInt = 0 from by decide)
  have nc1_1 := lv_neT c1_1 (show (1 : Int32).toInt = 1 from by decide)
  have nc1_2 := lv_neT c1_2 (show (2 : Int32).toInt = 2 from by decide)
  have nc1_3 := lv_neT c1_3 (show (3 : Int32).toInt = 3 from by decide)
  have nc1_4 := lv_neT c1_4 (show (4 : Int32).toInt = 4 from by decide)
  have nc1_5 := lv_neT c1_5 (show (5 : Int32).toInt = 5 from by decide)
  have nc1_6 := lv_neT c1_6 (show (6 : Int32).toInt = 6 from by decide)
  have nc1_7 := lv_neT c1_7 (show (7 : Int32).toInt = 7 from by decide)
  have nc1_8 := lv_neT c1_8 (show (8 : Int32).toInt = 8 from by decide)
  have nc1_9 := lv_neT c1_9 (show (9 : Int32).toInt = 9 from by decide)
  have nc1_10 := lv_neT c1_10 (show (10 : Int32).toInt = 10 from by decide)
  have nc1_11 := lv_neT c1_11 (show (11 : Int32).toInt = 11 from by decide)
  have nc1_12 := lv_neT c1_12 (show (12 : Int32).toInt = 12 from by decide)
  have nc1_13 := lv_neT c1_13 (show (13 : Int32).toInt = 13 from by decide)
  refine q_tsOut C (dflt := 272) (lo := 0) (hi := 13) (offs := #[71, 96, 121, 129, 134, 142, 153, 172, 183, 222, 240, 248, 256, 264]) (len := 71) 273 (by decide +kernel) (by omega) (by decide) ?_
  refine q_iconst C (n := (-1)) (v := (-1)) (by decide) (by decide +kernel) ?_
  exact q_riP hm K rfl (by decide +kernel)
def m_X11_back (h : q_H) (a0 : Nat) (a1 : Int32) : Option (Int32 × q_H) :=
  if a1 < 0 then
    some ((-1 : Int32), h)
  else
    if (4 : Int32) ≤ a1 then
      some ((-1 : Int32), h)
    else
      (q_gn h a0 11 7).bind fun v1 =>
      (q_ar h v1 4 a1).bind fun v2 =>
      if v2 = none then
        some ((-1 : Int32), h)
      else
        (q_gn h a0 11 5).bind fun v3 =>
        (q_gn h a0 11 7).bind fun v4 =>
        ((q_ar h v4 4 a1).bind fun o => o).bind fun v5 =>
        (q_ca 0 h v3 (m_X0_copyFrom h v3 v5)).bind fun h7 =>
        (q_gn h7 a0 11 6).bind fun v8 =>
        (q_ca 2 h7 v8 (m_X2_clear h7 v8)).bind fun h10 =>
        (q_gn h10 a0 11 5).bind fun v11 =>
        (q_gn h10 v11 0 1).bind fun v12 =>
        (q_gi h10 v12 10 1).bind fun v13 =>
        some (v13, h10)
set_option maxRecDepth 20000 in
set_option maxHeartbeats 1000000 in
theorem c_X11_back (l : Launch) (base : Nat) (D : va_G) (tc : Nat → ClassId) (sz : Nat) (h : q_H) (a0 : Nat) (a1 : Int32) {r : Int32} {h' : q_H} (hm : m_X11_back h a0 a1 = some (r, h')) : q_M l yX11_back cX11_back 2 (some .int) 5 122 0 0 base D tc [.ref a0, .int a1] sz h (some (.int r)) sz h' := by
  refine q_starti (by decide) (Nat.le_of_ble_eq_true rfl) (fun Γ B K => ?_)
  obtain ⟨C, Rm, -⟩ := B
  have C : q_C Γ cX11_back RX11 := C
  show q_V Γ sz 0 0 h [(0, .ref a0), (1, .int a1)] [] 0
  unfold m_X11_back at hm
  refine q_iload_n C (k4 := 1) 1 rfl (by decide +kernel) ?_
  refine q_if_lt C (off := 17) 18 hm (by decide +kernel) (by decide) (fun _ hm => ?_) (fun _ hm => ?_)
  · refine q_iconst C (n := (-1)) (v := (-1)) (by decide) (by decide +kernel) ?_
    exact q_riS hm K rfl (by decide +kernel)
  · refine q_iload_n C (k4 := 1) 1 rfl (by decide +kernel) ?_
    refine q_iconst C (n := 4) (v := 4) (by decide) (by decide +kernel) ?_
    refine q_icmp_ge C (off := 12) 18 hm (by decide +kernel) (by decide) (fun _ hm => ?_) (fun _ hm => ?_)
    · refine q_iconst C (n := (-1)) (v := (-1)) (by decide) (by decide +kernel) ?_
      exact q_riS hm K rfl (by decide +kernel)
    · refine q_aload_n C (k4 := 0) 0 rfl (by decide +kernel) ?_
      refine q_getn C fl_11_61 hm (by decide +kernel) (fun v1 hm => ?_)
      refine q_iload_n C (k4 := 1) 1 rfl (by decide +kernel) ?_
      refine q_rr C (ty := (.object "TugRope$Game")) (fun _ => rfl) rfl hm (by decide +kernel) (fun v2 hm => ?_)
      refine q_ifnonnull C (off := 5) 20 hm (by decide +kernel) (by decide) (fun _ hm => ?_) (fun _ hm => ?_)
      · refine q_aload_n C (k4 := 0) 0 rfl (by decide +kernel) ?_
        refine q_getn C fl_11_50 hm (by decide +kernel) (fun v3 hm => ?_)
        refine q_aload_n C (k4 := 0) 0 rfl (by decide +kernel) ?_
        refine q_getn C fl_11_61 hm (by decide +kernel) (fun v4 hm => ?_)
        refine q_iload_n C (k4 := 1) 1 rfl (by decide +kernel) ?_
        refine q_rrn C (ty := (.object "TugRope$Game")) (fun _ => rfl) rfl hm (by decide +kernel) (fun v5 hm => ?_)
        refine q_vvS C Rm (As := [.ref v5]) (rest := []) Y_X0_copyFrom Yv_X0_copyFrom ml_X11_286 (by decide) (by decide) hm (fun h7 e9 => c_X0_copyFrom _ _ _ _ _ _ _ _ e9) rfl rfl (Nat.le_of_ble_eq_true rfl) (by decide +kernel) (fun h7 hm => ?_)
        refine q_aload_n C (k4 := 0) 0 rfl (by decide +kernel) ?_
        refine q_getn C fl_11_57 hm (by decide +kernel) (fun v8 hm => ?_)
        refine q_vvS C Rm (As := []) (rest := []) Y_X2_clear Yv_X2_clear ml_X11_116 (by decide) (by decide) hm (fun h10 e9 => c_X2_clear _ _ _ _ _ _ _ e9) rfl rfl (Nat.le_of_ble_eq_true rfl) (by decide +kernel) (fun h10 hm => ?_)
        refine q_aload_n C (k4 := 0) 0 rfl (by decide +kernel) ?_
        refine q_getn C fl_11_50 hm (by decide +kernel) (fun v11 hm => ?_)
        refine q_getn C fl_11_103 hm (by decide +kernel) (fun v12 hm => ?_)
        refine q_geti C fl_11_160 hm (by decide +kernel) (fun v13 hm => ?_)
        exact q_riS hm K rfl (by decide +kernel)
      · refine q_iconst C (n := (-1)) (v := (-1)) (by decide) (by decide +kernel) ?_
        exact q_riS hm K rfl (by decide +kernel)
