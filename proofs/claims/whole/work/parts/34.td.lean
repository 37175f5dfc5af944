def t_X12_isRest_2  : Nat → r_S → Int32 → Int32 → Int32 → Option Int32
  | 0, _, _, _, _ => none
  | n + 1, σ0, x1, x2, x3 =>
    if (4 : Int32) ≤ x3 then
      some ((1 : Int32))
    else
      (t_ai 32 (r_A σ0 28) (((2 : Int32) * (((4 : Int32) * x3) + x2)))).bind fun v2 =>
      (t_ai 32 (r_A σ0 28) (((2 : Int32) * (((4 : Int32) * x1) + x2)))).bind fun v4 =>
      if v4 < v2 then
        some ((0 : Int32))
      else
        (t_ai 32 (r_A σ0 28) ((((2 : Int32) * (((4 : Int32) * x1) + x3)) + (1 : Int32)))).bind fun v6 =>
        (t_ai 32 (r_A σ0 28) ((((2 : Int32) * (((4 : Int32) * x1) + x2)) + (1 : Int32)))).bind fun v8 =>
        if v6 ≤ v8 then
          t_X12_isRest_2 n σ0 x1 x2 ((x3 + (1 : Int32)))
        else
          some ((0 : Int32))
set_option maxRecDepth 20000 in
theorem l_X12_isRest_2 (b : Nat) (h0 : q_H) {r : Int32} : ∀ (n : Nat) (σ0 : r_S) (x1 : Int32) (x2 : Int32) (x3 : Int32), t_X12_isRest_2 n σ0 x1 x2 x3 = some r → m_X12_isRest_2 n (r_H b σ0 h0) b x1 x2 x3 = some r := by
  intro n
  induction n with
  | zero => intro σ0 x1 x2 x3 hm; cases hm
  | succ n ih =>
    intro σ0 x1 x2 x3 hm
    unfold t_X12_isRest_2 at hm
    unfold m_X12_isRest_2
    refine r_if _ _ hm (fun _ hm => ?_) (fun _ hm => ?_)
    · exact hm
    · refine r_gn_28 ?_
      refine r_ai_28 hm (fun v2 hm => ?_)
      refine r_gn_28 ?_
      refine r_ai_28 hm (fun v4 hm => ?_)
      refine r_if _ _ hm (fun _ hm => ?_) (fun _ hm => ?_)
      · exact hm
      · refine r_gn_28 ?_
        refine r_ai_28 hm (fun v6 hm => ?_)
        refine r_gn_28 ?_
        refine r_ai_28 hm (fun v8 hm => ?_)
        refine r_if _ _ hm (fun _ hm => ?_) (fun _ hm => ?_)
        · exact ih _ _ _ _ hm
        · exact hm
def t_X12_isRest (σ0 : r_S) (a1 : Int32) (a2 : Int32) : Option Int32 :=
  t_X12_isRest_2 q_fu σ0 a1 a2 ((0 : Int32))
set_option maxRecDepth 20000 in
theorem l_X12_isRest (b : Nat) (h0 : q_H) (σ0 : r_S) (a1 : Int32) (a2 : Int32) {r : Int32} (hm : t_X12_isRest σ0 a1 a2 = some r) : m_X12_isRest (r_H b σ0 h0) b a1 a2 = some r := by
  unfold t_X12_isRest at hm
  unfold m_X12_isRest
  exact l_X12_isRest_2 _ _ _ _ _ _ _ hm
def t_X12_fillsRest (σ : r_S) (a1 : Int32) (a2 : Int32) (a3 : Int32) (a4 : Int32) : Option r_S :=
  (t_si 8 σ 23 a1 ((a3 / (4 : Int32)))).bind fun σ2 =>
  (t_si 8 σ2 23 a2 ((q_rmi a3 ((4 : Int32))))).bind fun σ4 =>
  (t_X12_passesAll σ4 a4).bind fun σ6 =>
  (t_si 8 σ6 23 a1 ((-1 : Int32))).bind fun σ8 =>
  (t_si 8 σ8 23 a2 ((-1 : Int32))).bind fun σ10 =>
  (t_X12_towards σ10 a1).bind fun r12 =>
  (t_X12_windOf σ10 a1).bind fun r14 =>
  (t_si 32 σ10 28 (((2 : Int32) * a3)) ((r12 + r14))).bind fun σ16 =>
  (t_X12_towards σ16 a2).bind fun r18 =>
  (t_X12_windOf σ16 a2).bind fun r20 =>
  (t_si 32 σ16 28 ((((2 : Int32) * a3) + (1 : Int32))) ((r18 + r20))).bind fun σ22 =>
  (t_X12_laysBack σ22).bind fun σ24 =>
  some σ24
set_option maxRecDepth 20000 in
theorem l_X12_fillsRest (b : Nat) (h0 : q_H) (σ : r_S) (a1 : Int32) (a2 : Int32) (a3 : Int32) (a4 : Int32) {s' : r_S} (hm : t_X12_fillsRest σ a1 a2 a3 a4 = some s') : m_X12_fillsRest (r_H b σ h0) b a1 a2 a3 a4 = some (r_H b s' h0) := by
  unfold t_X12_fillsRest at hm
  unfold m_X12_fillsRest
  refine r_gn_23 ?_
  refine r_as_23 hm (fun σ2 hm => ?_)
  refine r_gn_23 ?_
  refine r_as_23 hm (fun σ4 hm => ?_)
  refine r_cV (fun s9 e9 => l_X12_passesAll _ _ _ _ e9) hm (fun σ6 hm => ?_)
  refine r_gn_23 ?_
  refine r_as_23 hm (fun σ8 hm => ?_)
  refine r_gn_23 ?_
  refine r_as_23 hm (fun σ10 hm => ?_)
  refine r_gn_28 ?_
  refine r_cP (fun r9 e9 => l_X12_towards _ _ _ _ e9) hm (fun r12 hm => ?_)
  refine r_cP (fun r9 e9 => l_X12_windOf _ _ _ _ e9) hm (fun r14 hm => ?_)
  refine r_as_28 hm (fun σ16 hm => ?_)
  refine r_gn_28 ?_
  refine r_cP (fun r9 e9 => l_X12_towards _ _ _ _ e9) hm (fun r18 hm => ?_)
  refine r_cP (fun r9 e9 => l_X12_windOf _ _ _ _ e9) hm (fun r20 hm => ?_)
  refine r_as_28 hm (fun σ22 hm => ?_)
  refine r_cV (fun s9 e9 => l_X12_laysBack _ _ _  e9) hm (fun σ24 hm => ?_)
  exact r_retV hm
def t_X12_rests_117 (k87 : r_S → Int32 → Int32 → Int32 → Int32 → Option (Int32 × r_S)) (σ : r_S) (x4 : Int32) (x5 : Int32) (x6 : Int32) (x7 : Int32) : Option (Int32 × r_S) :=
  k87 σ x4 x5 x6 ((x7 + (-1 : Int32)))
set_option maxRecDepth 20000 in
theorem l_X12_rests_117 (b : Nat) (h0 : q_H) {r : Int32} {s' : r_S} {k87 : r_S → Int32 → Int32 → Int32 → Int32 → Option (Int32 × r_S)} {gk87 : q_H → Nat → Int32 → Int32 → Int32 → Int32 → Option (Int32 × q_H)} (hk87 : ∀ (σ : r_S) (x4 : Int32) (x5 : Int32) (x6 : Int32) (x7 : Int32), k87 σ x4 x5 x6 x7 = some (r, s') → gk87 (r_H b σ h0) b x4 x5 x6 x7 = some (r, r_H b s' h0)) : ∀ (σ : r_S) (x4 : Int32) (x5 : Int32) (x6 : Int32) (x7 : Int32), t_X12_rests_117 k87 σ x4 x5 x6 x7 = some (r, s') → m_X12_rests_117 gk87 (r_H b σ h0) b x4 x5 x6 x7 = some (r, r_H b s' h0) := by
  intro σ x4 x5 x6 x7 hm
  unfold t_X12_rests_117 at hm
  unfold m_X12_rests_117
  exact hk87 _ _ _ _ _ hm
def t_X12_rests_87  : Nat → r_S → Int32 → Int32 → Int32 → Int32 → Option (Int32 × r_S)
  | 0, _, _, _, _, _ => none
  | n + 1, σ, x4, x5, x6, x7 =>
    if x7 < 0 then
      if x4 = 0 then
        some (x5, σ)
      else
        if 0 ≤ x6 then
          if x4 = (1 : Int32) then
            some ((x6 / (4 : Int32)), σ)
          else
            some ((q_rmi x6 ((4 : Int32))), σ)
        else
          some ((-2 : Int32), σ)
    else
      (t_X12_isRest σ ((x7 / (4 : Int32))) ((q_rmi x7 ((4 : Int32))))).bind fun r13 =>
      if r13 = 0 then
        t_X12_rests_117 (t_X12_rests_87 n) σ x4 x5 x6 x7
      else
        t_X12_rests_117 (t_X12_rests_87 n) σ x4 ((x5 + (1 : Int32))) x7 x7
set_option maxRecDepth 20000 in
theorem l_X12_rests_87 (b : Nat) (h0 : q_H) {r : Int32} {s' : r_S} : ∀ (n : Nat) (σ : r_S) (x4 : Int32) (x5 : Int32) (x6 : Int32) (x7 : Int32), t_X12_rests_87 n σ x4 x5 x6 x7 = some (r, s') → m_X12_rests_87 n (r_H b σ h0) b x4 x5 x6 x7 = some (r, r_H b s' h0) := by
  intro n
  induction n with
  | zero => intro σ x4 x5 x6 x7 hm; cases hm
  | succ n ih =>
    intro σ x4 x5 x6 x7 hm
    unfold t_X12_rests_87 at hm
    unfold m_X12_rests_87
    refine r_if _ _ hm (fun _ hm => ?_) (fun _ hm => ?_)
    · refine r_if _ _ hm (fun _ hm => ?_) (fun _ hm => ?_)
      · exact r_retS hm
      · refine r_if _ _ hm (fun _ hm => ?_) (fun _ hm => ?_)
        · refine r_if _ _ hm (fun _ hm => ?_) (fun _ hm => ?_)
          · exact r_retS hm
          · exact r_retS hm
        · exact r_retS hm
    · refine r_cP (fun r9 e9 => l_X12_isRest _ _ _ _ _ e9) hm (fun r13 hm => ?_)
      refine r_if _ _ hm (fun _ hm => ?_) (fun _ hm => ?_)
      · exact l_X12_rests_117 _ _ ih _ _ _ _ _ hm
      · exact l_X12_rests_117 _ _ ih _ _ _ _ _ hm
def t_X12_rests_55  : Nat → r_S → Int32 → Int32 → Int32 → Int32 → Int32 → Option (Int32 × r_S)
  | 0, _, _, _, _, _, _ => none
  | n + 1, σ, x1, x2, x3, x4, x5 =>
    if (16 : Int32) ≤ x5 then
      t_X12_rests_87 q_fu σ x4 ((0 : Int32)) ((-1 : Int32)) ((15 : Int32))
    else
      (t_X12_fillsRest σ x1 x2 x5 x3).bind fun σ12 =>
      t_X12_rests_55 n σ12 x1 x2 x3 x4 ((x5 + (1 : Int32)))
set_option maxRecDepth 20000 in
theorem l_X12_rests_55 (b : Nat) (h0 : q_H) {r : Int32} {s' : r_S} : ∀ (n : Nat) (σ : r_S) (x1 : Int32) (x2 : Int32) (x3 : Int32) (x4 : Int32) (x5 : Int32), t_X12_rests_55 n σ x1 x2 x3 x4 x5 = some (r, s') → m_X12_rests_55 n (r_H b σ h0) b x1 x2 x3 x4 x5 = some (r, r_H b s' h0) := by
  intro n
  induction n with
  | zero => intro σ x1 x2 x3 x4 x5 hm; cases hm
  | succ n ih =>
    intro σ x1 x2 x3 x4 x5 hm
    unfold t_X12_rests_55 at hm
    unfold m_X12_rests_55
    refine r_if _ _ hm (fun _ hm => ?_) (fun _ hm => ?_)
    · exact l_X12_rests_87 _ _ _ _ _ _ _ _ hm
    · refine r_cV (fun s9 e9 => l_X12_fillsRest _ _ _ _ _ _ _ e9) hm (fun σ12 hm => ?_)
      exact ih _ _ _ _ _ _ hm
def t_X12_rests (σ : r_S) (a1 : Int32) (a2 : Int32) (a3 : Int32) (a4 : Int32) : Option (Int32 × r_S) :=
  (t_X12_isPuller σ a1).bind fun r1 =>
  if r1 = 0 then
    some ((-1 : Int32), σ)
  else
    (t_X12_isPuller σ a2).bind fun r3 =>
    if r3 = 0 then
      some ((-1 : Int32), σ)
    else
      if a1 = a2 then
        some ((-1 : Int32), σ)
      else
        (m_X12_in a3.toInt64 ((1 : Int64)) ((20 : Int64))).bind fun r5 =>
        if r5 = 0 then
          some ((-1 : Int32), σ)
        else
          (m_X12_in a4.toInt64 ((0 : Int64)) ((2 : Int64))).bind fun r7 =>
          if r7 = 0 then
            some ((-1 : Int32), σ)
          else
            (t_X12_keeps σ).bind fun σ10 =>
            t_X12_rests_55 q_fu σ10 a1 a2 a3 a4 ((0 : Int32))
set_option maxRecDepth 20000 in
theorem l_X12_rests (b : Nat) (h0 : q_H) (σ : r_S) (a1 : Int32) (a2 : Int32) (a3 : Int32) (a4 : Int32) {r : Int32} {s' : r_S} (hm : t_X12_rests σ a1 a2 a3 a4 = some (r, s')) : m_X12_rests (r_H b σ h0) b a1 a2 a3 a4 = some (r, r_H b s' h0) := by
  unfold t_X12_rests at hm
  unfold m_X12_rests
  refine r_cP (fun r9 e9 => l_X12_isPuller _ _ _ _ e9) hm (fun r1 hm => ?_)
  refine r_if _ _ hm (fun _ hm => ?_) (fun _ hm => ?_)
  · exact r_retS hm
  · refine r_cP (fun r9 e9 => l_X12_isPuller _ _ _ _ e9) hm (fun r3 hm => ?_)
    refine r_if _ _ hm (fun _ hm => ?_) (fun _ hm => ?_)
    · exact r_retS hm
    · refine r_if _ _ hm (fun _ hm => ?_) (fun _ hm => ?_)
      · exact r_retS hm
      · refine r_bd hm (fun r5 hm => ?_)
        refine r_if _ _ hm (fun _ hm => ?_) (fun _ hm => ?_)
        · exact r_retS hm
        · refine r_bd hm (fun r7 hm => ?_)
          refine r_if _ _ hm (fun _ hm => ?_) (fun _ hm => ?_)
          · exact r_retS hm
          · refine r_cV (fun s9 e9 => l_X12_keeps _ _ _  e9) hm (fun σ10 hm => ?_)
            exact l_X12_rests_55 _ _ _ _ _ _ _ _ _ hm
def t_X12_areAlike_2  : Nat → r_S → Int32 → Int32 → Int32 → Option Int32
  | 0, _, _, _, _ => none
  | n + 1, σ0, x1, x2, x3 =>
    if (10 : Int32) ≤ x3 then
      some ((1 : Int32))
    else
      (t_ai 610 (r_A σ0 29) ((((10 : Int32) * x1) + x3))).bind fun v2 =>
      (t_ai 610 (r_A σ0 29) ((((10 : Int32) * x2) + x3))).bind fun v4 =>
      if v2 = v4 then
        t_X12_areAlike_2 n σ0 x1 x2 ((x3 + (1 : Int32)))
      else
        some ((0 : Int32))
set_option maxRecDepth 20000 in
theorem l_X12_areAlike_2 (b : Nat) (h0 : q_H) {r : Int32} : ∀ (n : Nat) (σ0 : r_S) (x1 : Int32) (x2 : Int32) (x3 : Int32), t_X12_areAlike_2 n σ0 x1 x2 x3 = some r → m_X12_areAlike_2 n (r_H b σ0 h0) b x1 x2 x3 = some r := by
  intro n
  induction n with
  | zero => intro σ0 x1 x2 x3 hm; cases hm
  | succ n ih =>
    intro σ0 x1 x2 x3 hm
    unfold t_X12_areAlike_2 at hm
    unfold m_X12_areAlike_2
    refine r_if _ _ hm (fun _ hm => ?_) (fun _ hm => ?_)
    · exact hm
    · refine r_gn_29 ?_
      refine r_ai_29 hm (fun v2 hm => ?_)
      refine r_gn_29 ?_
      refine r_ai_29 hm (fun v4 hm => ?_)
      refine r_if _ _ hm (fun _ hm => ?_) (fun _ hm => ?_)
      · exact ih _ _ _ _ hm
      · exact hm
def t_X12_areAlike (σ0 : r_S) (a1 : Int32) (a2 : Int32) : Option Int32 :=
  t_X12_areAlike_2 q_fu σ0 a1 a2 ((0 : Int32))
set_option maxRecDepth 20000 in
theorem l_X12_areAlike (b : Nat) (h0 : q_H) (σ0 : r_S) (a1 : Int32) (a2 : Int32) {r : Int32} (hm : t_X12_areAlike σ0 a1 a2 = some r) : m_X12_areAlike (r_H b σ0 h0) b a1 a2 = some r := by
  unfold t_X12_areAlike at hm
  unfold m_X12_areAlike
  exact l_X12_areAlike_2 _ _ _ _ _ _ _ hm
def t_X12_alike_33 (k25 : r_S → Int32 → Int32 → Option (Int32 × r_S)) : Nat → r_S → Int32 → Int32 → Int32 → Option (Int32 × r_S)
  | 0, _, _, _, _ => none
  | n + 1, σ, x1, x2, x3 =>
    if (8 : Int32) ≤ x3 then
      (t_ai 106 (r_A σ 20) ((11 : Int32))).bind fun v11 =>
      (t_si 610 σ 29 ((((10 : Int32) * x2) + (8 : Int32))) v11).bind fun σ12 =>
      (t_X12_upOnes σ12).bind fun r14 =>
      (t_si 610 σ12 29 ((((10 : Int32) * x2) + (9 : Int32))) r14).bind fun σ16 =>
      (t_X12_passes σ16).bind fun σ18 =>
      k25 σ18 x1 ((x2 + (1 : Int32)))
    else
      (t_X12_windOf σ x3).bind fun r20 =>
      (t_si 610 σ 29 ((((10 : Int32) * x2) + x3)) r20).bind fun σ22 =>
      t_X12_alike_33 k25 n σ22 x1 x2 ((x3 + (1 : Int32)))
set_option maxRecDepth 20000 in
theorem l_X12_alike_33 (b : Nat) (h0 : q_H) {r : Int32} {s' : r_S} {k25 : r_S → Int32 → Int32 → Option (Int32 × r_S)} {gk25 : q_H → Nat → Int32 → Int32 → Option (Int32 × q_H)} (hk25 : ∀ (σ : r_S) (x1 : Int32) (x2 : Int32), k25 σ x1 x2 = some (r, s') → gk25 (r_H b σ h0) b x1 x2 = some (r, r_H b s' h0)) : ∀ (n : Nat) (σ : r_S) (x1 : Int32) (x2 : Int32) (x3 : Int32), t_X12_alike_33 k25 n σ x1 x2 x3 = some (r, s') → m_X12_alike_33 gk25 n (r_H b σ h0) b x1 x2 x3 = some (r, r_H b s' h0) := by
  intro n
  induction n with
  | zero => intro σ x1 x2 x3 hm; cases hm
  | succ n ih =>
    intro σ x1 x2 x3 hm
    unfold t_X12_alike_33 at hm
    unfold m_X12_alike_33
    refine r_if _ _ hm (fun _ hm => ?_) (fun _ hm => ?_)
    · refine r_gn_29 ?_
      refine r_gn_20 ?_
      refine r_ai_20 hm (fun v11 hm => ?_)
      refine r_as_29 hm (fun σ12 hm => ?_)
      refine r_gn_29 ?_
      refine r_cP (fun r9 e9 => l_X12_upOnes _ _ _  e9) hm (fun r14 hm => ?_)
      refine r_as_29 hm (fun σ16 hm => ?_)
      refine r_cV (fun s9 e9 => l_X12_passes _ _ _  e9) hm (fun σ18 hm => ?_)
      exact hk25 _ _ _ hm
    · refine r_gn_29 ?_
      refine r_cP (fun r9 e9 => l_X12_windOf _ _ _ _ e9) hm (fun r20 hm => ?_)
      refine r_as_29 hm (fun σ22 hm => ?_)
      exact ih _ _ _ _ hm
def t_X12_alike_122 (k112 : r_S → Int32 → Int32 → Option (Int32 × r_S)) : Nat → r_S → Int32 → Int32 → Int32 → Option (Int32 × r_S)
  | 0, _, _, _, _ => none
  | n + 1, σ, x1, x2, x3 =>
    if (60 : Int32) < x3 then
      k112 σ x1 ((x2 + (1 : Int32)))
    else
      (t_X12_areAlike σ x2 x3).bind fun r23 =>
      if r23 = 0 then
        t_X12_alike_122 k112 n σ x1 x2 ((x3 + (1 : Int32)))
      else
        if x1 = 0 then
          (t_ai 106 (r_A σ 20) ((10 : Int32))).bind fun v26 =>
          some ((v26 + x2), σ)
        else
          some ((x3 - x2), σ)
set_option maxRecDepth 20000 in
theorem l_X12_alike_122 (b : Nat) (h0 : q_H) {r : Int32} {s' : r_S} {k112 : r_S → Int32 → Int32 → Option (Int32 × r_S)} {gk112 : q_H → Nat → Int32 → Int32 → Option (Int32 × q_H)} (hk112 : ∀ (σ : r_S) (x1 : Int32) (x2 : Int32), k112 σ x1 x2 = some (r, s') → gk112 (r_H b σ h0) b x1 x2 = some (r, r_H b s' h0)) : ∀ (n : Nat) (σ : r_S) (x1 : Int32) (x2 : Int32) (x3 : Int32), t_X12_alike_122 k112 n σ x1 x2 x3 = some (r, s') → m_X12_alike_122 gk112 n (r_H b σ h0) b x1 x2 x3 = some (r, r_H b s' h0) := by
  intro n
  induction n with
  | zero => intro σ x1 x2 x3 hm; cases hm
  | succ n ih =>
    intro σ x1 x2 x3 hm
    unfold t_X12_alike_122 at hm
    unfold m_X12_alike_122
    refine r_if _ _ hm (fun _ hm => ?_) (fun _ hm => ?_)
    · exact hk112 _ _ _ hm
    · refine r_cP (fun r9 e9 => l_X12_areAlike _ _ _ _ _ e9) hm (fun r23 hm => ?_)
      refine r_if _ _ hm (fun _ hm => ?_) (fun _ hm => ?_)
      · exact ih _ _ _ _ hm
      · refine r_if _ _ hm (fun _ hm => ?_) (fun _ hm => ?_)
        · refine r_gn_20 ?_
          refine r_ai_20 hm (fun v26 hm => ?_)
          exact r_retS hm
        · exact r_retS hm
def t_X12_alike_112  : Nat → r_S → Int32 → Int32 → Option (Int32 × r_S)
  | 0, _, _, _ => none
  | n + 1, σ, x1, x2 =>
    if (60 : Int32) ≤ x2 then
      some ((-2 : Int32), σ)
    else
      t_X12_alike_122 (t_X12_alike_112 n) q_fu σ x1 x2 ((x2 + (1 : Int32)))
set_option maxRecDepth 20000 in
theorem l_X12_alike_112 (b : Nat) (h0 : q_H) {r : Int32} {s' : r_S} : ∀ (n : Nat) (σ : r_S) (x1 : Int32) (x2 : Int32), t_X12_alike_112 n σ x1 x2 = some (r, s') → m_X12_alike_112 n (r_H b σ h0) b x1 x2 = some (r, r_H b s' h0) := by
  intro n
  induction n with
  | zero => intro σ x1 x2 hm; cases hm
  | succ n ih =>
    intro σ x1 x2 hm
    unfold t_X12_alike_112 at hm
    unfold m_X12_alike_112
    refine r_if _ _ hm (fun _ hm => ?_) (fun _ hm => ?_)
    · exact r_retS hm
    · exact l_X12_alike_122 _ _ ih _ _ _ _ _ hm
def t_X12_alike_25  : Nat → r_S → Int32 → Int32 → Option (Int32 × r_S)
  | 0, _, _, _ => none
  | n + 1, σ, x1, x2 =>
    if (60 : Int32) < x2 then
      (t_X12_laysBack σ).bind fun σ8 =>
      t_X12_alike_112 q_fu σ8 x1 ((0 : Int32))
    else
      t_X12_alike_33 (t_X12_alike_25 n) q_fu σ x1 x2 ((0 : Int32))
set_option maxRecDepth 20000 in
theorem l_X12_alike_25 (b : Nat) (h0 : q_H) {r : Int32} {s' : r_S} : ∀ (n : Nat) (σ : r_S) (x1 : Int32) (x2 : Int32), t_X12_alike_25 n σ x1 x2 = some (r, s') → m_X12_alike_25 n (r_H b σ h0) b x1 x2 = some (r, r_H b s' h0) := by
  intro n
  induction n with
  | zero => intro σ x1 x2 hm; cases hm
  | succ n ih =>
    intro σ x1 x2 hm
    unfold t_X12_alike_25 at hm
    unfold m_X12_alike_25
    refine r_if _ _ hm (fun _ hm => ?_) (fun _ hm => ?_)
    · refine r_cV (fun s9 e9 => l_X12_laysBack _ _ _  e9) hm (fun σ8 hm => ?_)
      exact l_X12_alike_112 _ _ _ _ _ _ hm
    · exact l_X12_alike_33 _ _ ih _ _ _ _ _ hm
def t_X12_alike (σ : r_S) (a1 : Int32) : Option (Int32 × r_S) :=
  (t_X12_isRope σ).bind fun r1 =>
  if r1 = 0 then
    some ((-1 : Int32), σ)
  else
    (m_X12_in a1.toInt64 ((0 : Int64)) ((1 : Int64))).bind fun r3 =>
    if r3 = 0 then
      some ((-1 : Int32), σ)
    else
      (t_X12_keeps σ).bind fun σ6 =>
      t_X12_alike_25 q_fu σ6 a1 ((0 : Int32))
set_option maxRecDepth 20000 in
theorem l_X12_alike (b : Nat) (h0 : q_H) (σ : r_S) (a1 : Int32) {r : Int32} {s' : r_S} (hm : t_X12_alike σ a1 = some (r, s')) : m_X12_alike (r_H b σ h0) b a1 = some (r, r_H b s' h0) := by
  unfold t_X12_alike at hm
  unfold m_X12_alike
  refine r_cP (fun r9 e9 => l_X12_isRope _ _ _  e9) hm (fun r1 hm => ?_)
  refine r_if _ _ hm (fun _ hm => ?_) (fun _ hm => ?_)
  · exact r_retS hm
  · refine r_bd hm (fun r3 hm => ?_)
    refine r_if _ _ hm (fun _ hm => ?_) (fun _ hm => ?_)
    · exact r_retS hm
    · refine r_cV (fun s9 e9 => l_X12_keeps _ _ _  e9) hm (fun σ6 hm => ?_)
      exact l_X12_alike_25 _ _ _ _ _ _ hm
def t_X12_pence_116 (k51 : r_S → Int32 → Int32 → Int32 → Int32 → Int32 → Int32 → Int32 → Option Int32) (σ0 : r_S) (x1 : Int32) (x2 : Int32) (x3 : Int32) (x4 : Int32) (x5 : Int32) (x7 : Int32) (s0 : Int32) (s1 : Int32) : Option Int32 :=
  k51 σ0 x1 x2 x3 x4 x5 ((s1 + s0)) ((x7 + (1 : Int32)))
set_option maxRecDepth 20000 in
theorem l_X12_pence_116 (b : Nat) (h0 : q_H) {r : Int32} {k51 : r_S → Int32 → Int32 → Int32 → Int32 → Int32 → Int32 → Int32 → Option Int32} {gk51 : q_H → Nat → Int32 → Int32 → Int32 → Int32 → Int32 → Int32 → Int32 → Option Int32} (hk51 : ∀ (σ0 : r_S) (x1 : Int32) (x2 : Int32) (x3 : Int32) (x4 : Int32) (x5 : Int32) (x6 : Int32) (x7 : Int32), k51 σ0 x1 x2 x3 x4 x5 x6 x7 = some r → gk51 (r_H b σ0 h0) b x1 x2 x3 x4 x5 x6 x7 = some r) : ∀ (σ0 : r_S) (x1 : Int32) (x2 : Int32) (x3 : Int32) (x4 : Int32) (x5 : Int32) (x7 : Int32) (s0 : Int32) (s1 : Int32), t_X12_pence_116 k51 σ0 x1 x2 x3 x4 x5 x7 s0 s1 = some r → m_X12_pence_116 gk51 (r_H b σ0 h0) b x1 x2 x3 x4 x5 x7 s0 s1 = some r := by
  intro σ0 x1 x2 x3 x4 x5 x7 s0 s1 hm
  unfold t_X12_pence_116 at hm
  unfold m_X12_pence_116
  exact hk51 _ _ _ _ _ _ _ _ hm
def t_X12_pence_111 (k51 : r_S → Int32 → Int32 → Int32 → Int32 → Int32 → Int32 → Int32 → Option Int32) (σ0 : r_S) (x1 : Int32) (x2 : Int32) (x3 : Int32) (x4 : Int32) (x5 : Int32) (x7 : Int32) (s0 : Int32) : Option Int32 :=
  t_X12_pence_116 k51 σ0 x1 x2 x3 x4 x5 x7 ((1 : Int32)) s0
set_option maxRecDepth 20000 in
theorem l_X12_pence_111 (b : Nat) (h0 : q_H) {r : Int32} {k51 : r_S → Int32 → Int32 → Int32 → Int32 → Int32 → Int32 → Int32 → Option Int32} {gk51 : q_H → Nat → Int32 → Int32 → Int32 → Int32 → Int32 → Int32 → Int32 → Option Int32} (hk51 : ∀ (σ0 : r_S) (x1 : Int32) (x2 : Int32) (x3 : Int32) (x4 : Int32) (x5 : Int32) (x6 : Int32) (x7 : Int32), k51 σ0 x1 x2 x3 x4 x5 x6 x7 = some r → gk51 (r_H b σ0 h0) b x1 x2 x3 x4 x5 x6 x7 = some r) : ∀ (σ0 : r_S) (x1 : Int32) (x2 : Int32) (x3 : Int32) (x4 : Int32) (x5 : Int32) (x7 : Int32) (s0 : Int32), t_X12_pence_111 k51 σ0 x1 x2 x3 x4 x5 x7 s0 = some r → m_X12_pence_111 gk51 (r_H b σ0 h0) b x1 x2 x3 x4 x5 x7 s0 = some r := by
  intro σ0 x1 x2 x3 x4 x5 x7 s0 hm
  unfold t_X12_pence_111 at hm
  unfold m_X12_pence_111
  exact l_X12_pence_116 _ _ hk51 _ _ _ _ _ _ _ _ _ hm
def t_X12_pence_115 (k51 : r_S → Int32 → Int32 → Int32 → Int32 → Int32 → Int32 → Int32 → Option Int32) (σ0 : r_S) (x1 : Int32) (x2 : Int32) (x3 : Int32) (x4 : Int32) (x5 : Int32) (x7 : Int32) (s0 : Int32) : Option Int32 :=
  t_X12_pence_116 k51 σ0 x1 x2 x3 x4 x5 x7 ((0 : Int32)) s0
set_option maxRecDepth 20000 in
theorem l_X12_pence_115 (b : Nat) (h0 : q_H) {r : Int32} {k51 : r_S → Int32 → Int32 → Int32 → Int32 → Int32 → Int32 → Int32 → Option Int32} {gk51 : q_H → Nat → Int32 → Int32 → Int32 → Int32 → Int32 → Int32 → Int32 → Option Int32} (hk51 : ∀ (σ0 : r_S) (x1 : Int32) (x2 : Int32) (x3 : Int32) (x4 : Int32) (x5 : Int32) (x6 : Int32) (x7 : Int32), k51 σ0 x1 x2 x3 x4 x5 x6 x7 = some r → gk51 (r_H b σ0 h0) b x1 x2 x3 x4 x5 x6 x7 = some r) : ∀ (σ0 : r_S) (x1 : Int32) (x2 : Int32) (x3 : Int32) (x4 : Int32) (x5 : Int32) (x7 : Int32) (s0 : Int32), t_X12_pence_115 k51 σ0 x1 x2 x3 x4 x5 x7 s0 = some r → m_X12_pence_115 gk51 (r_H b σ0 h0) b x1 x2 x3 x4 x5 x7 s0 = some r := by
  intro σ0 x1 x2 x3 x4 x5 x7 s0 hm
  unfold t_X12_pence_115 at hm
  unfold m_X12_pence_115
  exact l_X12_pence_116 _ _ hk51 _ _ _ _ _ _ _ _ _ hm
def t_X12_pence_141 (σ0 : r_S) (s0 : Int32) (s1 : Int32) : Option Int32 :=
  some ((s1 + s0))
set_option maxRecDepth 20000 in
theorem l_X12_pence_141 (b : Nat) (h0 : q_H) {r : Int32} : ∀ (σ0 : r_S) (s0 : Int32) (s1 : Int32), t_X12_pence_141 σ0 s0 s1 = some r → m_X12_pence_141 (r_H b σ0 h0) s0 s1 = some r := by
  intro σ0 s0 s1 hm
  unfold t_X12_pence_141 at hm
  unfold m_X12_pence_141
  exact hm
def t_X12_pence_51  : Nat → r_S → Int32 → Int32 → Int32 → Int32 → Int32 → Int32 → Int32 → Option Int32
  | 0, _, _, _, _, _, _, _, _ => none
  | n + 1, σ0, x1, x2, x3, x4, x5, x6, x7 =>
    (t_ai 106 (r_A σ0 20) ((3 : Int32))).bind fun v10 =>
    if v10 ≤ x7 then
      if x3 = 0 then none else
      if x5 ≤ x6 then
        t_X12_pence_141 σ0 ((0 : Int32)) ((x4 / x3))
      else
        t_X12_pence_141 σ0 ((1 : Int32)) ((x4 / x3))
    else
      (t_X12_workOf σ0 x7).bind fun r11 =>
      if x3 = 0 then none else
      if x3 = 0 then none else
      if x3 = 0 then none else
      if (q_rmi x4 x3) < (q_rmi ((x1 * r11)) x3) then
        t_X12_pence_111 (t_X12_pence_51 n) σ0 x1 x2 x3 x4 ((x5 - ((x1 * r11) / x3))) x7 x6
      else
        if x3 = 0 then none else
        if x3 = 0 then none else
        if (q_rmi ((x1 * r11)) x3) = (q_rmi x4 x3) then
          if x2 ≤ x7 then
            t_X12_pence_115 (t_X12_pence_51 n) σ0 x1 x2 x3 x4 ((x5 - ((x1 * r11) / x3))) x7 x6
          else
            t_X12_pence_111 (t_X12_pence_51 n) σ0 x1 x2 x3 x4 ((x5 - ((x1 * r11) / x3))) x7 x6
        else
          t_X12_pence_115 (t_X12_pence_51 n) σ0 x1 x2 x3 x4 ((x5 - ((x1 * r11) / x3))) x7 x6
set_option maxRecDepth 20000 in
theorem l_X12_pence_51 (b : Nat) (h0 : q_H) {r : Int32} : ∀ (n : Nat) (σ0 : r_S) (x1 : Int32) (x2 : Int32) (x3 : Int32) (x4 : Int32) (x5 : Int32) (x6 : Int32) (x7 : Int32), t_X12_pence_51 n σ0 x1 x2 x3 x4 x5 x6 x7 = some r → m_X12_pence_51 n (r_H b σ0 h0) b x1 x2 x3 x4 x5 x6 x7 = some r := by
  intro n
  induction n with
  | zero => intro σ0 x1 x2 x3 x4 x5 x6 x7 hm; cases hm
  | succ n ih =>
    intro σ0 x1 x2 x3 x4 x5 x6 x7 hm
    unfold t_X12_pence_51 at hm
    unfold m_X12_pence_51
    refine r_gn_20 ?_
    refine r_ai_20 hm (fun v10 hm => ?_)
    refine r_if _ _ hm (fun _ hm => ?_) (fun _ hm => ?_)
    · refine r_if _ _ hm (fun _ hm => by cases hm) (fun _ hm => ?_)
      refine r_if _ _ hm (fun _ hm => ?_) (fun _ hm => ?_)
      · exact l_X12_pence_141 _ _ _ _ _ hm
      · exact l_X12_pence_141 _ _ _ _ _ hm
    · refine r_cP (fun r9 e9 => l_X12_workOf _ _ _ _ e9) hm (fun r11 hm => ?_)
      refine r_if _ _ hm (fun _ hm => by cases hm) (fun _ hm => ?_)
      refine r_if _ _ hm (fun _ hm => by cases hm) (fun _ hm => ?_)
      refine r_if _ _ hm (fun _ hm => by cases hm) (fun _ hm => ?_)
      refine r_if _ _ hm (fun _ hm => ?_) (fun _ hm => ?_)
      · exact l_X12_pence_111 _ _ ih _ _ _ _ _ _ _ _ hm
      · refine r_if _ _ hm (fun _ hm => by cases hm) (fun _ hm => ?_)
        refine r_if _ _ hm (fun _ hm => by cases hm) (fun _ hm => ?_)
        refine r_if _ _ hm (fun _ hm => ?_) (fun _ hm => ?_)
        · refine r_if _ _ hm (fun _ hm => ?_) (fun _ hm => ?_)
          · exact l_X12_pence_115 _ _ ih _ _ _ _ _ _ _ _ hm
          · exact l_X12_pence_111 _ _ ih _ _ _ _ _ _ _ _ hm
        · exact l_X12_pence_115 _ _ ih _ _ _ _ _ _ _ _ hm
def t_X12_pence (σ0 : r_S) (a1 : Int32) (a2 : Int32) : Option Int32 :=
  (t_X12_isPuller σ0 a2).bind fun r1 =>
  if r1 = 0 then
    some ((-1 : Int32))
  else
    (m_X12_in a1.toInt64 ((0 : Int64)) ((9999 : Int64))).bind fun r3 =>
    if r3 = 0 then
      some ((-1 : Int32))
    else
      (t_X12_workAll σ0).bind fun r5 =>
      if r5 = 0 then
        some ((0 : Int32))
      else
        (t_X12_workOf σ0 a2).bind fun r7 =>
        t_X12_pence_51 q_fu σ0 a1 a2 r5 ((a1 * r7)) a1 ((0 : Int32)) ((0 : Int32))
set_option maxRecDepth 20000 in
theorem l_X12_pence (b : Nat) (h0 : q_H) (σ0 : r_S) (a1 : Int32) (a2 : Int32) {r : Int32} (hm : t_X12_pence σ0 a1 a2 = some r) : m_X12_pence (r_H b σ0 h0) b a1 a2 = some r := by
  unfold t_X12_pence at hm
  unfold m_X12_pence
  refine r_cP (fun r9 e9 => l_X12_isPuller _ _ _ _ e9) hm (fun r1 hm => ?_)
  refine r_if _ _ hm (fun _ hm => ?_) (fun _ hm => ?_)
  · exact hm
  · refine r_bd hm (fun r3 hm => ?_)
    refine r_if _ _ hm (fun _ hm => ?_) (fun _ hm => ?_)
    · exact hm
    · refine r_cP (fun r9 e9 => l_X12_workAll _ _ _  e9) hm (fun r5 hm => ?_)
      refine r_if _ _ hm (fun _ hm => ?_) (fun _ hm => ?_)
      · exact hm
      · refine r_cP (fun r9 e9 => l_X12_workOf _ _ _ _ e9) hm (fun r7 hm => ?_)
        exact l_X12_pence_51 _ _ _ _ _ _ _ _ _ _ _ hm
def t_X12_note (σ : r_S) (a1 : Int32) (a2 : Int32) : Option (Int32 × r_S) :=
  if a1 = (-1 : Int32) then
    (t_si 106 σ 20 ((105 : Int32)) ((0 : Int32))).bind fun σ21 =>
    some ((0 : Int32), σ21)
  else
    (t_X12_isRope σ).bind fun r1 =>
    if r1 = 0 then
      some ((-2 : Int32), σ)
    else
      (m_X12_in a1.toInt64 ((0 : Int64)) ((60 : Int64))).bind fun r3 =>
      if r3 = 0 then
        some ((-2 : Int32), σ)
      else
        (m_X12_in a2.toInt64 ((0 : Int64)) ((200 : Int64))).bind fun r5 =>
        if r5 = 0 then
          some ((-2 : Int32), σ)
        else
          (t_ai 106 (r_A σ 20) ((105 : Int32))).bind fun v8 =>
          if v8 = (10 : Int32) then
            some ((-2 : Int32), σ)
          else
            (t_ai 106 (r_A σ 20) ((105 : Int32))).bind fun v10 =>
            (t_si 106 σ 20 (((85 : Int32) + ((2 : Int32) * v10))) a1).bind fun σ12 =>
            (t_si 106 σ12 20 ((((85 : Int32) + ((2 : Int32) * v10)) + (1 : Int32))) a2).bind fun σ14 =>
            (t_ai 106 (r_A σ14 20) ((105 : Int32))).bind fun v16 =>
            (t_si 106 σ14 20 ((105 : Int32)) ((v16 + (1 : Int32)))).bind fun σ17 =>
            (t_ai 106 (r_A σ17 20) ((105 : Int32))).bind fun v19 =>
            some (v19, σ17)
set_option maxRecDepth 20000 in
theorem l_X12_note (b : Nat) (h0 : q_H) (σ : r_S) (a1 : Int32) (a2 : Int32) {r : Int32} {s' : r_S} (hm : t_X12_note σ a1 a2 = some (r, s')) : m_X12_note (r_H b σ h0) b a1 a2 = some (r, r_H b s' h0) := by
  unfold t_X12_note at hm
  unfold m_X12_note
  refine r_if _ _ hm (fun _ hm => ?_) (fun _ hm => ?_)
  · refine r_gn_20 ?_
    refine r_as_20 hm (fun σ21 hm => ?_)
    exact r_retS hm
  · refine r_cP (fun r9 e9 => l_X12_isRope _ _ _  e9) hm (fun r1 hm => ?_)
    refine r_if _ _ hm (fun _ hm => ?_) (fun _ hm => ?_)
    · exact r_retS hm
    · refine r_bd hm (fun r3 hm => ?_)
      refine r_if _ _ hm (fun _ hm => ?_) (fun _ hm => ?_)
      · exact r_retS hm
      · refine r_bd hm (fun r5 hm => ?_)
        refine r_if _ _ hm (fun _ hm => ?_) (fun _ hm => ?_)
        · exact r_retS hm
        · refine r_gn_20 ?_
          refine r_ai_20 hm (fun v8 hm => ?_)
          refine r_if _ _ hm (fun _ hm => ?_) (fun _ hm => ?_)
          · exact r_retS hm
          · refine r_gn_20 ?_
            refine r_ai_20 hm (fun v10 hm => ?_)
            refine r_gn_20 ?_
            refine r_as_20 hm (fun σ12 hm => ?_)
            refine r_gn_20 ?_
            refine r_as_20 hm (fun σ14 hm => ?_)
            refine r_gn_20 ?_
            refine r_ai_20 hm (fun v16 hm => ?_)
            refine r_as_20 hm (fun σ17 hm => ?_)
            refine r_gn_20 ?_
            refine r_ai_20 hm (fun v19 hm => ?_)
            exact r_retS hm
def t_X12_areNotesSo_48 (k2 : r_S → Int32 → Int32 → Option Int32) (σ0 : r_S) (x1 : Int32) (x2 : Int32) : Option Int32 :=
  k2 σ0 x1 ((x2 + (2 : Int32)))
set_option maxRecDepth 20000 in
theorem l_X12_areNotesSo_48 (b : Nat) (h0 : q_H) {r : Int32} {k2 : r_S → Int32 → Int32 → Option Int32} {gk2 : q_H → Nat → Int32 → Int32 → Option Int32} (hk2 : ∀ (σ0 : r_S) (x1 : Int32) (x2 : Int32), k2 σ0 x1 x2 = some r → gk2 (r_H b σ0 h0) b x1 x2 = some r) : ∀ (σ0 : r_S) (x1 : Int32) (x2 : Int32), t_X12_areNotesSo_48 k2 σ0 x1 x2 = some r → m_X12_areNotesSo_48 gk2 (r_H b σ0 h0) b x1 x2 = some r := by
  intro σ0 x1 x2 hm
  unfold t_X12_areNotesSo_48 at hm
  unfold m_X12_areNotesSo_48
  exact hk2 _ _ _ hm
def t_X12_areNotesSo_2  : Nat → r_S → Int32 → Int32 → Option Int32
  | 0, _, _, _ => none
  | n + 1, σ0, x1, x2 =>
    (t_ai 106 (r_A σ0 20) ((105 : Int32))).bind fun v2 =>
    if ((2 : Int32) * v2) ≤ x2 then
      some ((1 : Int32))
    else
      (t_ai 106 (r_A σ0 20) (((85 : Int32) + x2))).bind fun v4 =>
      if v4 = x1 then
        (t_X12_ribbon σ0).bind fun r5 =>
        (t_ai 106 (r_A σ0 20) ((((85 : Int32) + x2) + (1 : Int32)))).bind fun v8 =>
        if r5 = v8 then
          t_X12_areNotesSo_48 (t_X12_areNotesSo_2 n) σ0 x1 x2
        else
          some ((0 : Int32))
      else
        t_X12_areNotesSo_48 (t_X12_areNotesSo_2 n) σ0 x1 x2
set_option maxRecDepth 20000 in
theorem l_X12_areNotesSo_2 (b : Nat) (h0 : q_H) {r : Int32} : ∀ (n : Nat) (σ0 : r_S) (x1 : Int32) (x2 : Int32), t_X12_areNotesSo_2 n σ0 x1 x2 = some r → m_X12_areNotesSo_2 n (r_H b σ0 h0) b x1 x2 = some r := by
  intro n
  induction n with
  | zero => intro σ0 x1 x2 hm; cases hm
  | succ n ih =>
    intro σ0 x1 x2 hm
    unfold t_X12_areNotesSo_2 at hm
    unfold m_X12_areNotesSo_2
    refine r_gn_20 ?_
    refine r_ai_20 hm (fun v2 hm => ?_)
    refine r_if _ _ hm (fun _ hm => ?_) (fun _ hm => ?_)
    · exact hm
    · refine r_gn_20 ?_
      refine r_ai_20 hm (fun v4 hm => ?_)
      refine r_if _ _ hm (fun _ hm => ?_) (fun _ hm => ?_)
      · refine r_cP (fun r9 e9 => l_X12_ribbon _ _ _  e9) hm (fun r5 hm => ?_)
        refine r_gn_20 ?_
        refine r_ai_20 hm (fun v8 hm => ?_)
        refine r_if _ _ hm (fun _ hm => ?_) (fun _ hm => ?_)
        · exact l_X12_areNotesSo_48 _ _ ih _ _ _ hm
        · exact hm
      · exact l_X12_areNotesSo_48 _ _ ih _ _ _ hm
def t_X12_areNotesSo (σ0 : r_S) (a1 : Int32) : Option Int32 :=
  t_X12_areNotesSo_2 q_fu σ0 a1 ((0 : Int32))
set_option maxRecDepth 20000 in
theorem l_X12_areNotesSo (b : Nat) (h0 : q_H) (σ0 : r_S) (a1 : Int32) {r : Int32} (hm : t_X12_areNotesSo σ0 a1 = some r) : m_X12_areNotesSo (r_H b σ0 h0) b a1 = some r := by
  unfold t_X12_areNotesSo at hm
  unfold m_X12_areNotesSo
  exact l_X12_areNotesSo_2 _ _ _ _ _ _ hm
def t_X12_areAllSo_31 (k4 : r_S → Int32 → Int32 → Int32 → Option (Int32 × r_S)) (σ : r_S) (x1 : Int32) (x3 : Int32) (s0 : Int32) : Option (Int32 × r_S) :=
  (t_ai 106 (r_A σ 20) ((11 : Int32))).bind fun v7 =>
  (t_si 427 σ 31 ((((61 : Int32) * x1) + x3)) v7).bind fun σ8 =>
  k4 σ8 x1 s0 ((x3 + (1 : Int32)))
set_option maxRecDepth 20000 in
theorem l_X12_areAllSo_31 (b : Nat) (h0 : q_H) {r : Int32} {s' : r_S} {k4 : r_S → Int32 → Int32 → Int32 → Option (Int32 × r_S)} {gk4 : q_H → Nat → Int32 → Int32 → Int32 → Option (Int32 × q_H)} (hk4 : ∀ (σ : r_S) (x1 : Int32) (x2 : Int32) (x3 : Int32), k4 σ x1 x2 x3 = some (r, s') → gk4 (r_H b σ h0) b x1 x2 x3 = some (r, r_H b s' h0)) : ∀ (σ : r_S) (x1 : Int32) (x3 : Int32) (s0 : Int32), t_X12_areAllSo_31 k4 σ x1 x3 s0 = some (r, s') → m_X12_areAllSo_31 gk4 (r_H b σ h0) b x1 x3 s0 = some (r, r_H b s' h0) := by
  intro σ x1 x3 s0 hm
  unfold t_X12_areAllSo_31 at hm
  unfold m_X12_areAllSo_31
  refine r_gn_31 ?_
  refine r_gn_20 ?_
  refine r_ai_20 hm (fun v7 hm => ?_)
  refine r_as_31 hm (fun σ8 hm => ?_)
  exact hk4 _ _ _ _ hm
def t_X12_areAllSo_30 (k4 : r_S → Int32 → Int32 → Int32 → Option (Int32 × r_S)) (σ : r_S) (x1 : Int32) (x3 : Int32) : Option (Int32 × r_S) :=
  t_X12_areAllSo_31 k4 σ x1 x3 ((0 : Int32))
set_option maxRecDepth 20000 in
theorem l_X12_areAllSo_30 (b : Nat) (h0 : q_H) {r : Int32} {s' : r_S} {k4 : r_S → Int32 → Int32 → Int32 → Option (Int32 × r_S)} {gk4 : q_H → Nat → Int32 → Int32 → Int32 → Option (Int32 × q_H)} (hk4 : ∀ (σ : r_S) (x1 : Int32) (x2 : Int32) (x3 : Int32), k4 σ x1 x2 x3 = some (r, s') → gk4 (r_H b σ h0) b x1 x2 x3 = some (r, r_H b s' h0)) : ∀ (σ : r_S) (x1 : Int32) (x3 : Int32), t_X12_areAllSo_30 k4 σ x1 x3 = some (r, s') → m_X12_areAllSo_30 gk4 (r_H b σ h0) b x1 x3 = some (r, r_H b s' h0) := by
  intro σ x1 x3 hm
  unfold t_X12_areAllSo_30 at hm
  unfold m_X12_areAllSo_30
  exact l_X12_areAllSo_31 _ _ hk4 _ _ _ _ hm
def t_X12_areAllSo_4  : Nat → r_S → Int32 → Int32 → Int32 → Option (Int32 × r_S)
  | 0, _, _, _, _ => none
  | n + 1, σ, x1, x2, x3 =>
    if (60 : Int32) < x3 then
      (q_zc x2).bind fun _ =>
      some (x2, σ)
    else
      (t_X12_passes σ).bind fun σ2 =>
      if x2 = 0 then
        t_X12_areAllSo_30 (t_X12_areAllSo_4 n) σ2 x1 x3
      else
        (t_X12_areNotesSo σ2 x3).bind fun r3 =>
        if r3 = 0 then
          t_X12_areAllSo_30 (t_X12_areAllSo_4 n) σ2 x1 x3
        else
          t_X12_areAllSo_31 (t_X12_areAllSo_4 n) σ2 x1 x3 ((1 : Int32))
set_option maxRecDepth 20000 in
theorem l_X12_areAllSo_4 (b : Nat) (h0 : q_H) {r : Int32} {s' : r_S} : ∀ (n : Nat) (σ : r_S) (x1 : Int32) (x2 : Int32) (x3 : Int32), t_X12_areAllSo_4 n σ x1 x2 x3 = some (r, s') → m_X12_areAllSo_4 n (r_H b σ h0) b x1 x2 x3 = some (r, r_H b s' h0) := by
  intro n
  induction n with
  | zero => intro σ x1 x2 x3 hm; cases hm
  | succ n ih =>
    intro σ x1 x2 x3 hm
    unfold t_X12_areAllSo_4 at hm
    unfold m_X12_areAllSo_4
    refine r_if _ _ hm (fun _ hm => ?_) (fun _ hm => ?_)
    · refine r_bd hm (fun w9 hm => ?_)
      exact r_retS hm
    · refine r_cV (fun s9 e9 => l_X12_passes _ _ _  e9) hm (fun σ2 hm => ?_)
      refine r_if _ _ hm (fun _ hm => ?_) (fun _ hm => ?_)
      · exact l_X12_areAllSo_30 _ _ ih _ _ _ hm
      · refine r_cP (fun r9 e9 => l_X12_areNotesSo _ _ _ _ e9) hm (fun r3 hm => ?_)
        refine r_if _ _ hm (fun _ hm => ?_) (fun _ hm => ?_)
        · exact l_X12_areAllSo_30 _ _ ih _ _ _ hm
        · exact l_X12_areAllSo_31 _ _ ih _ _ _ _ hm
def t_X12_areAllSo (σ : r_S) (a1 : Int32) : Option (Int32 × r_S) :=
  t_X12_areAllSo_4 q_fu σ a1 ((1 : Int32)) ((0 : Int32))
set_option maxRecDepth 20000 in
theorem l_X12_areAllSo (b : Nat) (h0 : q_H) (σ : r_S) (a1 : Int32) {r : Int32} {s' : r_S} (hm : t_X12_areAllSo σ a1 = some (r, s')) : m_X12_areAllSo (r_H b σ h0) b a1 = some (r, r_H b s' h0) := by
  unfold t_X12_areAllSo at hm
  unfold m_X12_areAllSo
  exact l_X12_areAllSo_4 _ _ _ _ _ _ _ hm
def t_X12_fillsFits_11  : Nat → r_S → Int32 → Int32 → Option r_S
  | 0, _, _, _ => none
  | n + 1, σ, x1, x2 =>
    let v4 := r_I σ 2
    if v4 < x2 then
      let σ5 := r_si σ 21 (x1)
      (t_X12_laysBack σ5).bind fun σ7 =>
      some σ7
    else
      let σ8 := r_si σ 21 (x2 - (1 : Int32))
      (t_X12_begins σ8).bind fun σ10 =>
      (t_X12_areAllSo σ10 x2).bind fun (r12, σ13) =>
      (t_si 7 σ13 30 x2 (vp_nar .boolean r12)).bind fun σ15 =>
      t_X12_fillsFits_11 n σ15 x1 ((x2 + (1 : Int32)))
set_option maxRecDepth 20000 in
theorem l_X12_fillsFits_11 (b : Nat) (h0 : q_H) {s' : r_S} : ∀ (n : Nat) (σ : r_S) (x1 : Int32) (x2 : Int32), t_X12_fillsFits_11 n σ x1 x2 = some s' → m_X12_fillsFits_11 n (r_H b σ h0) b x1 x2 = some (r_H b s' h0) := by
  intro n
  induction n with
  | zero => intro σ x1 x2 hm; cases hm
  | succ n ih =>
    intro σ x1 x2 hm
    unfold t_X12_fillsFits_11 at hm
    unfold m_X12_fillsFits_11
    refine r_gi_2 ?_
    refine r_if _ _ hm (fun _ hm => ?_) (fun _ hm => ?_)
    · refine r_pi_21 ?_
      refine r_cV (fun s9 e9 => l_X12_laysBack _ _ _  e9) hm (fun σ7 hm => ?_)
      exact r_retV hm
    · refine r_pi_21 ?_
      refine r_cV (fun s9 e9 => l_X12_begins _ _ _  e9) hm (fun σ10 hm => ?_)
      refine r_gn_30 ?_
      refine r_cS (fun r9 s9 e9 => l_X12_areAllSo _ _ _ _ e9) hm (fun r12 σ13 hm => ?_)
      refine r_as_30 hm (fun σ15 hm => ?_)
      exact ih _ _ _ hm
def t_X12_fillsFits (σ : r_S) : Option r_S :=
  let v1 := r_I σ 21
  (t_X12_keeps σ).bind fun σ3 =>
  t_X12_fillsFits_11 q_fu σ3 v1 ((0 : Int32))
set_option maxRecDepth 20000 in
theorem l_X12_fillsFits (b : Nat) (h0 : q_H) (σ : r_S)  {s' : r_S} (hm : t_X12_fillsFits σ = some s') : m_X12_fillsFits (r_H b σ h0) b = some (r_H b s' h0) := by
  unfold t_X12_fillsFits at hm
  unfold m_X12_fillsFits
  refine r_gi_21 ?_
  refine r_cV (fun s9 e9 => l_X12_keeps _ _ _  e9) hm (fun σ3 hm => ?_)
  exact l_X12_fillsFits_11 _ _ _ _ _ _ hm
def t_X12_ruled_61 (k35 : r_S → Int32 → Int32 → Int32 → Int32 → Option (Int32 × r_S)) (σ : r_S) (x1 : Int32) (x2 : Int32) (x3 : Int32) (x4 : Int32) : Option (Int32 × r_S) :=
  k35 σ x1 x2 x3 ((x4 + (-1 : Int32)))
set_option maxRecDepth 20000 in
theorem l_X12_ruled_61 (b : Nat) (h0 : q_H) {r : Int32} {s' : r_S} {k35 : r_S → Int32 → Int32 → Int32 → Int32 → Option (Int32 × r_S)} {gk35 : q_H → Nat → Int32 → Int32 → Int32 → Int32 → Option (Int32 × q_H)} (hk35 : ∀ (σ : r_S) (x1 : Int32) (x2 : Int32) (x3 : Int32) (x4 : Int32), k35 σ x1 x2 x3 x4 = some (r, s') → gk35 (r_H b σ h0) b x1 x2 x3 x4 = some (r, r_H b s' h0)) : ∀ (σ : r_S) (x1 : Int32) (x2 : Int32) (x3 : Int32) (x4 : Int32), t_X12_ruled_61 k35 σ x1 x2 x3 x4 = some (r, s') → m_X12_ruled_61 gk35 (r_H b σ h0) b x1 x2 x3 x4 = some (r, r_H b s' h0) := by
  intro σ x1 x2 x3 x4 hm
  unfold t_X12_ruled_61 at hm
  unfold m_X12_ruled_61
  exact hk35 _ _ _ _ _ hm
def t_X12_ruled_35  : Nat → r_S → Int32 → Int32 → Int32 → Int32 → Option (Int32 × r_S)
  | 0, _, _, _, _, _ => none
  | n + 1, σ, x1, x2, x3, x4 =>
    if x4 < 0 then
      if x1 = 0 then
        some (x2, σ)
      else
        some (x3, σ)
    else
      (t_ai 7 (r_A σ 30) x4).bind fun v9 =>
      if v9 = 0 then
        t_X12_ruled_61 (t_X12_ruled_35 n) σ x1 x2 x3 x4
      else
        t_X12_ruled_61 (t_X12_ruled_35 n) σ x1 ((x2 + (1 : Int32))) ((x4 - (1 : Int32))) x4
set_option maxRecDepth 20000 in
theorem l_X12_ruled_35 (b : Nat) (h0 : q_H) {r : Int32} {s' : r_S} : ∀ (n : Nat) (σ : r_S) (x1 : Int32) (x2 : Int32) (x3 : Int32) (x4 : Int32), t_X12_ruled_35 n σ x1 x2 x3 x4 = some (r, s') → m_X12_ruled_35 n (r_H b σ h0) b x1 x2 x3 x4 = some (r, r_H b s' h0) := by
  intro n
  induction n with
  | zero => intro σ x1 x2 x3 x4 hm; cases hm
  | succ n ih =>
    intro σ x1 x2 x3 x4 hm
    unfold t_X12_ruled_35 at hm
    unfold m_X12_ruled_35
    refine r_if _ _ hm (fun _ hm => ?_) (fun _ hm => ?_)
    · refine r_if _ _ hm (fun _ hm => ?_) (fun _ hm => ?_)
      · exact r_retS hm
      · exact r_retS hm
    · refine r_gn_30 ?_
      refine r_ai_30 hm (fun v9 hm => ?_)
      refine r_if _ _ hm (fun _ hm => ?_) (fun _ hm => ?_)
      · exact l_X12_ruled_61 _ _ ih _ _ _ _ _ hm
      · exact l_X12_ruled_61 _ _ ih _ _ _ _ _ hm
def t_X12_ruled (σ : r_S) (a1 : Int32) : Option (Int32 × r_S) :=
  (t_X12_isRope σ).bind fun r1 =>
  if r1 = 0 then
    some ((-3 : Int32), σ)
  else
    (m_X12_in a1.toInt64 ((0 : Int64)) ((1 : Int64))).bind fun r3 =>
    if r3 = 0 then
      some ((-3 : Int32), σ)
    else
      (t_X12_fillsFits σ).bind fun σ6 =>
      let v7 := r_I σ6 2
      t_X12_ruled_35 q_fu σ6 a1 ((0 : Int32)) ((-2 : Int32)) v7
set_option maxRecDepth 20000 in
theorem l_X12_ruled (b : Nat) (h0 : q_H) (σ : r_S) (a1 : Int32) {r : Int32} {s' : r_S} (hm : t_X12_ruled σ a1 = some (r, s')) : m_X12_ruled (r_H b σ h0) b a1 = some (r, r_H b s' h0) := by
  unfold t_X12_ruled at hm
  unfold m_X12_ruled
  refine r_cP (fun r9 e9 => l_X12_isRope _ _ _  e9) hm (fun r1 hm => ?_)
  refine r_if _ _ hm (fun _ hm => ?_) (fun _ hm => ?_)
  · exact r_retS hm
  · refine r_bd hm (fun r3 hm => ?_)
    refine r_if _ _ hm (fun _ hm => ?_) (fun _ hm => ?_)
    · exact r_retS hm
    · refine r_cV (fun s9 e9 => l_X12_fillsFits _ _ _  e9) hm (fun σ6 hm => ?_)
      refine r_gi_2 ?_
      exact l_X12_ruled_35 _ _ _ _ _ _ _ _ hm
def t_X12_alikeAt_79 (k4 : r_S → Int32 → Int32 → Int32 → Option Int32) (k18 : r_S → Int32 → Int32 → Int32 → Int32 → Int32 → Option Int32) (σ0 : r_S) (x1 : Int32) (x2 : Int32) (x3 : Int32) (x5 : Int32) (s0 : Int32) (s1 : Int32) : Option Int32 :=
  k18 σ0 x1 x2 x3 ((s1 + s0)) ((x5 + (1 : Int32)))
set_option maxRecDepth 20000 in
theorem l_X12_alikeAt_79 (b : Nat) (h0 : q_H) {r : Int32} {k4 : r_S → Int32 → Int32 → Int32 → Option Int32} {gk4 : q_H → Nat → Int32 → Int32 → Int32 → Option Int32} {k18 : r_S → Int32 → Int32 → Int32 → Int32 → Int32 → Option Int32} {gk18 : q_H → Nat → Int32 → Int32 → Int32 → Int32 → Int32 → Option Int32} (hk4 : ∀ (σ0 : r_S) (x1 : Int32) (x2 : Int32) (x3 : Int32), k4 σ0 x1 x2 x3 = some r → gk4 (r_H b σ0 h0) b x1 x2 x3 = some r) (hk18 : ∀ (σ0 : r_S) (x1 : Int32) (x2 : Int32) (x3 : Int32) (x4 : Int32) (x5 : Int32), k18 σ0 x1 x2 x3 x4 x5 = some r → gk18 (r_H b σ0 h0) b x1 x2 x3 x4 x5 = some r) : ∀ (σ0 : r_S) (x1 : Int32) (x2 : Int32) (x3 : Int32) (x5 : Int32) (s0 : Int32) (s1 : Int32), t_X12_alikeAt_79 k4 k18 σ0 x1 x2 x3 x5 s0 s1 = some r → m_X12_alikeAt_79 gk4 gk18 (r_H b σ0 h0) b x1 x2 x3 x5 s0 s1 = some r := by
  intro σ0 x1 x2 x3 x5 s0 s1 hm
  unfold t_X12_alikeAt_79 at hm
  unfold m_X12_alikeAt_79
  exact hk18 _ _ _ _ _ _ hm
def t_X12_alikeAt_78 (k4 : r_S → Int32 → Int32 → Int32 → Option Int32) (k18 : r_S → Int32 → Int32 → Int32 → Int32 → Int32 → Option Int32) (σ0 : r_S) (x1 : Int32) (x2 : Int32) (x3 : Int32) (x5 : Int32) (s0 : Int32) : Option Int32 :=
  t_X12_alikeAt_79 k4 k18 σ0 x1 x2 x3 x5 ((0 : Int32)) s0
set_option maxRecDepth 20000 in
theorem l_X12_alikeAt_78 (b : Nat) (h0 : q_H) {r : Int32} {k4 : r_S → Int32 → Int32 → Int32 → Option Int32} {gk4 : q_H → Nat → Int32 → Int32 → Int32 → Option Int32} {k18 : r_S → Int32 → Int32 → Int32 → Int32 → Int32 → Option Int32} {gk18 : q_H → Nat → Int32 → Int32 → Int32 → Int32 → Int32 → Option Int32} (hk4 : ∀ (σ0 : r_S) (x1 : Int32) (x2 : Int32) (x3 : Int32), k4 σ0 x1 x2 x3 = some r → gk4 (r_H b σ0 h0) b x1 x2 x3 = some r) (hk18 : ∀ (σ0 : r_S) (x1 : Int32) (x2 : Int32) (x3 : Int32) (x4 : Int32) (x5 : Int32), k18 σ0 x1 x2 x3 x4 x5 = some r → gk18 (r_H b σ0 h0) b x1 x2 x3 x4 x5 = some r) : ∀ (σ0 : r_S) (x1 : Int32) (x2 : Int32) (x3 : Int32) (x5 : Int32) (s0 : Int32), t_X12_alikeAt_78 k4 k18 σ0 x1 x2 x3 x5 s0 = some r → m_X12_alikeAt_78 gk4 gk18 (r_H b σ0 h0) b x1 x2 x3 x5 s0 = some r := by
  intro σ0 x1 x2 x3 x5 s0 hm
  unfold t_X12_alikeAt_78 at hm
  unfold m_X12_alikeAt_78
  exact l_X12_alikeAt_79 _ _ hk4 hk18 _ _ _ _ _ _ _ hm
def t_X12_alikeAt_100 (k4 : r_S → Int32 → Int32 → Int32 → Option Int32) (σ0 : r_S) (x1 : Int32) (x3 : Int32) (s0 : Int32) : Option Int32 :=
  k4 σ0 x1 s0 ((x3 + (1 : Int32)))
set_option maxRecDepth 20000 in
theorem l_X12_alikeAt_100 (b : Nat) (h0 : q_H) {r : Int32} {k4 : r_S → Int32 → Int32 → Int32 → Option Int32} {gk4 : q_H → Nat → Int32 → Int32 → Int32 → Option Int32} (hk4 : ∀ (σ0 : r_S) (x1 : Int32) (x2 : Int32) (x3 : Int32), k4 σ0 x1 x2 x3 = some r → gk4 (r_H b σ0 h0) b x1 x2 x3 = some r) : ∀ (σ0 : r_S) (x1 : Int32) (x3 : Int32) (s0 : Int32), t_X12_alikeAt_100 k4 σ0 x1 x3 s0 = some r → m_X12_alikeAt_100 gk4 (r_H b σ0 h0) b x1 x3 s0 = some r := by
  intro σ0 x1 x3 s0 hm
  unfold t_X12_alikeAt_100 at hm
  unfold m_X12_alikeAt_100
  exact hk4 _ _ _ _ hm
def t_X12_alikeAt_88 (k4 : r_S → Int32 → Int32 → Int32 → Option Int32) (σ0 : r_S) (x1 : Int32) (x2 : Int32) (x3 : Int32) (x4 : Int32) : Option Int32 :=
  if x4 ≤ x2 then
    t_X12_alikeAt_100 k4 σ0 x1 x3 x2
  else
    t_X12_alikeAt_100 k4 σ0 x1 x3 x4
set_option maxRecDepth 20000 in
theorem l_X12_alikeAt_88 (b : Nat) (h0 : q_H) {r : Int32} {k4 : r_S → Int32 → Int32 → Int32 → Option Int32} {gk4 : q_H → Nat → Int32 → Int32 → Int32 → Option Int32} (hk4 : ∀ (σ0 : r_S) (x1 : Int32) (x2 : Int32) (x3 : Int32), k4 σ0 x1 x2 x3 = some r → gk4 (r_H b σ0 h0) b x1 x2 x3 = some r) : ∀ (σ0 : r_S) (x1 : Int32) (x2 : Int32) (x3 : Int32) (x4 : Int32), t_X12_alikeAt_88 k4 σ0 x1 x2 x3 x4 = some r → m_X12_alikeAt_88 gk4 (r_H b σ0 h0) b x1 x2 x3 x4 = some r := by
  intro σ0 x1 x2 x3 x4 hm
  unfold t_X12_alikeAt_88 at hm
  unfold m_X12_alikeAt_88
  refine r_if _ _ hm (fun _ hm => ?_) (fun _ hm => ?_)
  · exact l_X12_alikeAt_100 _ _ hk4 _ _ _ _ hm
  · exact l_X12_alikeAt_100 _ _ hk4 _ _ _ _ hm
def t_X12_alikeAt_18 (k4 : r_S → Int32 → Int32 → Int32 → Option Int32) : Nat → r_S → Int32 → Int32 → Int32 → Int32 → Int32 → Option Int32
  | 0, _, _, _, _, _, _ => none
  | n + 1, σ0, x1, x2, x3, x4, x5 =>
    let v2 := r_I σ0 2
    if v2 < x5 then
      t_X12_alikeAt_88 k4 σ0 x1 x2 x3 x4
    else
      (t_ai 7 (r_A σ0 30) x3).bind fun v4 =>
      if v4 = 0 then
        t_X12_alikeAt_88 k4 σ0 x1 x2 x3 x4
      else
        (t_ai 7 (r_A σ0 30) x5).bind fun v6 =>
        if v6 = 0 then
          t_X12_alikeAt_78 k4 (t_X12_alikeAt_18 k4 n) σ0 x1 x2 x3 x5 x4
        else
          (t_ai 427 (r_A σ0 31) ((((61 : Int32) * x3) + x1))).bind fun v8 =>
          (t_ai 427 (r_A σ0 31) ((((61 : Int32) * x5) + x1))).bind fun v10 =>
          if v8 = v10 then
            t_X12_alikeAt_79 k4 (t_X12_alikeAt_18 k4 n) σ0 x1 x2 x3 x5 ((1 : Int32)) x4
          else
            t_X12_alikeAt_78 k4 (t_X12_alikeAt_18 k4 n) σ0 x1 x2 x3 x5 x4
set_option maxRecDepth 20000 in
theorem l_X12_alikeAt_18 (b : Nat) (h0 : q_H) {r : Int32} {k4 : r_S → Int32 → Int32 → Int32 → Option Int32} {gk4 : q_H → Nat → Int32 → Int32 → Int32 → Option Int32} (hk4 : ∀ (σ0 : r_S) (x1 : Int32) (x2 : Int32) (x3 : Int32), k4 σ0 x1 x2 x3 = some r → gk4 (r_H b σ0 h0) b x1 x2 x3 = some r) : ∀ (n : Nat) (σ0 : r_S) (x1 : Int32) (x2 : Int32) (x3 : Int32) (x4 : Int32) (x5 : Int32), t_X12_alikeAt_18 k4 n σ0 x1 x2 x3 x4 x5 = some r → m_X12_alikeAt_18 gk4 n (r_H b σ0 h0) b x1 x2 x3 x4 x5 = some r := by
  intro n
  induction n with
  | zero => intro σ0 x1 x2 x3 x4 x5 hm; cases hm
  | succ n ih =>
    intro σ0 x1 x2 x3 x4 x5 hm
    unfold t_X12_alikeAt_18 at hm
    unfold m_X12_alikeAt_18
    refine r_gi_2 ?_
    refine r_if _ _ hm (fun _ hm => ?_) (fun _ hm => ?_)
    · exact l_X12_alikeAt_88 _ _ hk4 _ _ _ _ _ hm
    · refine r_gn_30 ?_
      refine r_ai_30 hm (fun v4 hm => ?_)
      refine r_if _ _ hm (fun _ hm => ?_) (fun _ hm => ?_)
      · exact l_X12_alikeAt_88 _ _ hk4 _ _ _ _ _ hm
      · refine r_gn_30 ?_
        refine r_ai_30 hm (fun v6 hm => ?_)
        refine r_if _ _ hm (fun _ hm => ?_) (fun _ hm => ?_)
        · exact l_X12_alikeAt_78 _ _ hk4 ih _ _ _ _ _ _ hm
        · refine r_gn_31 ?_
          refine r_ai_31 hm (fun v8 hm => ?_)
          refine r_gn_31 ?_
          refine r_ai_31 hm (fun v10 hm => ?_)
          refine r_if _ _ hm (fun _ hm => ?_) (fun _ hm => ?_)
          · exact l_X12_alikeAt_79 _ _ hk4 ih _ _ _ _ _ _ _ hm
          · exact l_X12_alikeAt_78 _ _ hk4 ih _ _ _ _ _ _ hm
def t_X12_alikeAt_4  : Nat → r_S → Int32 → Int32 → Int32 → Option Int32
  | 0, _, _, _, _ => none
  | n + 1, σ0, x1, x2, x3 =>
    let v1 := r_I σ0 2
    if v1 < x3 then
      some x2
    else
      t_X12_alikeAt_18 (t_X12_alikeAt_4 n) q_fu σ0 x1 x2 x3 ((0 : Int32)) ((0 : Int32))
set_option maxRecDepth 20000 in
theorem l_X12_alikeAt_4 (b : Nat) (h0 : q_H) {r : Int32} : ∀ (n : Nat) (σ0 : r_S) (x1 : Int32) (x2 : Int32) (x3 : Int32), t_X12_alikeAt_4 n σ0 x1 x2 x3 = some r → m_X12_alikeAt_4 n (r_H b σ0 h0) b x1 x2 x3 = some r := by
  intro n
  induction n with
  | zero => intro σ0 x1 x2 x3 hm; cases hm
  | succ n ih =>
    intro σ0 x1 x2 x3 hm
    unfold t_X12_alikeAt_4 at hm
    unfold m_X12_alikeAt_4
    refine r_gi_2 ?_
    refine r_if _ _ hm (fun _ hm => ?_) (fun _ hm => ?_)
    · exact hm
    · exact l_X12_alikeAt_18 _ _ ih _ _ _ _ _ _ _ hm
def t_X12_alikeAt (σ0 : r_S) (a1 : Int32) : Option Int32 :=
  t_X12_alikeAt_4 q_fu σ0 a1 ((0 : Int32)) ((0 : Int32))
set_option maxRecDepth 20000 in
theorem l_X12_alikeAt (b : Nat) (h0 : q_H) (σ0 : r_S) (a1 : Int32) {r : Int32} (hm : t_X12_alikeAt σ0 a1 = some r) : m_X12_alikeAt (r_H b σ0 h0) b a1 = some r := by
  unfold t_X12_alikeAt at hm
  unfold m_X12_alikeAt
  exact l_X12_alikeAt_4 _ _ _ _ _ _ _ hm
def t_X12_look_71 (k32 : r_S → Int32 → Int32 → Int32 → Int32 → Option (Int32 × r_S)) (σ : r_S) (x1 : Int32) (x2 : Int32) (x3 : Int32) (x4 : Int32) : Option (Int32 × r_S) :=
  k32 σ x1 x2 x3 ((x4 + (1 : Int32)))
set_option maxRecDepth 20000 in
theorem l_X12_look_71 (b : Nat) (h0 : q_H) {r : Int32} {s' : r_S} {k32 : r_S → Int32 → Int32 → Int32 → Int32 → Option (Int32 × r_S)} {gk32 : q_H → Nat → Int32 → Int32 → Int32 → Int32 → Option (Int32 × q_H)} (hk32 : ∀ (σ : r_S) (x1 : Int32) (x2 : Int32) (x3 : Int32) (x4 : Int32), k32 σ x1 x2 x3 x4 = some (r, s') → gk32 (r_H b σ h0) b x1 x2 x3 x4 = some (r, r_H b s' h0)) : ∀ (σ : r_S) (x1 : Int32) (x2 : Int32) (x3 : Int32) (x4 : Int32), t_X12_look_71 k32 σ x1 x2 x3 x4 = some (r, s') → m_X12_look_71 gk32 (r_H b σ h0) b x1 x2 x3 x4 = some (r, r_H b s' h0) := by
  intro σ x1 x2 x3 x4 hm
  unfold t_X12_look_71 at hm
  unfold m_X12_look_71
  exact hk32 _ _ _ _ _ hm
def t_X12_look_65 (k32 : r_S → Int32 → Int32 → Int32 → Int32 → Option (Int32 × r_S)) (σ : r_S) (x1 : Int32) (x4 : Int32) (x5 : Int32) : Option (Int32 × r_S) :=
  t_X12_look_71 k32 σ x1 x4 x5 x4
set_option maxRecDepth 20000 in
theorem l_X12_look_65 (b : Nat) (h0 : q_H) {r : Int32} {s' : r_S} {k32 : r_S → Int32 → Int32 → Int32 → Int32 → Option (Int32 × r_S)} {gk32 : q_H → Nat → Int32 → Int32 → Int32 → Int32 → Option (Int32 × q_H)} (hk32 : ∀ (σ : r_S) (x1 : Int32) (x2 : Int32) (x3 : Int32) (x4 : Int32), k32 σ x1 x2 x3 x4 = some (r, s') → gk32 (r_H b σ h0) b x1 x2 x3 x4 = some (r, r_H b s' h0)) : ∀ (σ : r_S) (x1 : Int32) (x4 : Int32) (x5 : Int32), t_X12_look_65 k32 σ x1 x4 x5 = some (r, s') → m_X12_look_65 gk32 (r_H b σ h0) b x1 x4 x5 = some (r, r_H b s' h0) := by
  intro σ x1 x4 x5 hm
  unfold t_X12_look_65 at hm
  unfold m_X12_look_65
  exact l_X12_look_71 _ _ hk32 _ _ _ _ _ hm
def t_X12_look_32  : Nat → r_S → Int32 → Int32 → Int32 → Int32 → Option (Int32 × r_S)
  | 0, _, _, _, _, _ => none
  | n + 1, σ, x1, x2, x3, x4 =>
    if (60 : Int32) < x4 then
      if x1 = 0 then
        some (x2, σ)
      else
        some (x3, σ)
    else
      (t_X12_alikeAt σ x4).bind fun r7 =>
      if r7 = 0 then
        t_X12_look_71 (t_X12_look_32 n) σ x1 x2 x3 x4
      else
        if x2 < 0 then
          t_X12_look_65 (t_X12_look_32 n) σ x1 x4 r7
        else
          if r7 < x3 then
            t_X12_look_65 (t_X12_look_32 n) σ x1 x4 r7
          else
            t_X12_look_71 (t_X12_look_32 n) σ x1 x2 x3 x4
set_option maxRecDepth 20000 in
theorem l_X12_look_32 (b : Nat) (h0 : q_H) {r : Int32} {s' : r_S} : ∀ (n : Nat) (σ : r_S) (x1 : Int32) (x2 : Int32) (x3 : Int32) (x4 : Int32), t_X12_look_32 n σ x1 x2 x3 x4 = some (r, s') → m_X12_look_32 n (r_H b σ h0) b x1 x2 x3 x4 = some (r, r_H b s' h0) := by
  intro n
  induction n with
  | zero => intro σ x1 x2 x3 x4 hm; cases hm
  | succ n ih =>
    intro σ x1 x2 x3 x4 hm
    unfold t_X12_look_32 at hm
    unfold m_X12_look_32
    refine r_if _ _ hm (fun _ hm => ?_) (fun _ hm => ?_)
    · refine r_if _ _ hm (fun _ hm => ?_) (fun _ hm => ?_)
      · exact r_retS hm
      · exact r_retS hm
    · refine r_cP (fun r9 e9 => l_X12_alikeAt _ _ _ _ e9) hm (fun r7 hm => ?_)
      refine r_if _ _ hm (fun _ hm => ?_) (fun _ hm => ?_)
      · exact l_X12_look_71 _ _ ih _ _ _ _ _ hm
      · refine r_if _ _ hm (fun _ hm => ?_) (fun _ hm => ?_)
        · exact l_X12_look_65 _ _ ih _ _ _ _ hm
        · refine r_if _ _ hm (fun _ hm => ?_) (fun _ hm => ?_)
          · exact l_X12_look_65 _ _ ih _ _ _ _ hm
          · exact l_X12_look_71 _ _ ih _ _ _ _ _ hm
def t_X12_look (σ : r_S) (a1 : Int32) : Option (Int32 × r_S) :=
  (t_X12_isRope σ).bind fun r1 =>
  if r1 = 0 then
    some ((-1 : Int32), σ)
  else
    (m_X12_in a1.toInt64 ((0 : Int64)) ((1 : Int64))).bind fun r3 =>
    if r3 = 0 then
      some ((-1 : Int32), σ)
    else
      (t_X12_fillsFits σ).bind fun σ6 =>
      t_X12_look_32 q_fu σ6 a1 ((-2 : Int32)) ((-2 : Int32)) ((0 : Int32))
set_option maxRecDepth 20000 in
theorem l_X12_look (b : Nat) (h0 : q_H) (σ : r_S) (a1 : Int32) {r : Int32} {s' : r_S} (hm : t_X12_look σ a1 = some (r, s')) : m_X12_look (r_H b σ h0) b a1 = some (r, r_H b s' h0) := by
  unfold t_X12_look at hm
  unfold m_X12_look
  refine r_cP (fun r9 e9 => l_X12_isRope _ _ _  e9) hm (fun r1 hm => ?_)
  refine r_if _ _ hm (fun _ hm => ?_) (fun _ hm => ?_)
  · exact r_retS hm
  · refine r_bd hm (fun r3 hm => ?_)
    refine r_if _ _ hm (fun _ hm => ?_) (fun _ hm => ?_)
    · exact r_retS hm
    · refine r_cV (fun s9 e9 => l_X12_fillsFits _ _ _  e9) hm (fun σ6 hm => ?_)
      exact l_X12_look_32 _ _ _ _ _ _ _ _ hm
def t_X12_canBe_58 (k22 : r_S → Int32 → Int32 → Int32 → Int32 → Int32 → Int32 → Int32 → Option (Int32 × r_S)) (σ : r_S) (x1 : Int32) (x2 : Int32) (x4 : Int32) (x5 : Int32) (x6 : Int32) (x7 : Int32) (x8 : Int32) : Option (Int32 × r_S) :=
  k22 σ x1 x2 x4 x5 x6 x7 ((x8 + (-1 : Int32)))
set_option maxRecDepth 20000 in
theorem l_X12_canBe_58 (b : Nat) (h0 : q_H) {r : Int32} {s' : r_S} {k22 : r_S → Int32 → Int32 → Int32 → Int32 → Int32 → Int32 → Int32 → Option (Int32 × r_S)} {gk22 : q_H → Nat → Int32 → Int32 → Int32 → Int32 → Int32 → Int32 → Int32 → Option (Int32 × q_H)} (hk22 : ∀ (σ : r_S) (x1 : Int32) (x2 : Int32) (x4 : Int32) (x5 : Int32) (x6 : Int32) (x7 : Int32) (x8 : Int32), k22 σ x1 x2 x4 x5 x6 x7 x8 = some (r, s') → gk22 (r_H b σ h0) b x1 x2 x4 x5 x6 x7 x8 = some (r, r_H b s' h0)) : ∀ (σ : r_S) (x1 : Int32) (x2 : Int32) (x4 : Int32) (x5 : Int32) (x6 : Int32) (x7 : Int32) (x8 : Int32), t_X12_canBe_58 k22 σ x1 x2 x4 x5 x6 x7 x8 = some (r, s') → m_X12_canBe_58 gk22 (r_H b σ h0) b x1 x2 x4 x5 x6 x7 x8 = some (r, r_H b s' h0) := by
  intro σ x1 x2 x4 x5 x6 x7 x8 hm
  unfold t_X12_canBe_58 at hm
  unfold m_X12_canBe_58
  exact hk22 _ _ _ _ _ _ _ _ hm
def t_X12_canBe_22  : Nat → r_S → Int32 → Int32 → Int32 → Int32 → Int32 → Int32 → Int32 → Option (Int32 × r_S)
  | 0, _, _, _, _, _, _, _, _ => none
  | n + 1, σ, x1, x2, x4, x5, x6, x7, x8 =>
    if x8 < x2 then
      (t_si 106 σ 20 x1 x5).bind fun σ6 =>
      (t_X12_laysBack σ6).bind fun σ8 =>
      if x4 = 0 then
        some (x6, σ8)
      else
        some (x7, σ8)
    else
      (t_si 106 σ 20 x1 x8).bind fun σ10 =>
      (t_X12_begins σ10).bind fun σ12 =>
      (t_X12_areAllSo σ12 ((0 : Int32))).bind fun (r13, σ14) =>
      if r13 = 0 then
        t_X12_canBe_58 (t_X12_canBe_22 n) σ14 x1 x2 x4 x5 x6 x7 x8
      else
        t_X12_canBe_58 (t_X12_canBe_22 n) σ14 x1 x2 x4 x5 ((x6 + (1 : Int32))) x8 x8
set_option maxRecDepth 20000 in
theorem l_X12_canBe_22 (b : Nat) (h0 : q_H) {r : Int32} {s' : r_S} : ∀ (n : Nat) (σ : r_S) (x1 : Int32) (x2 : Int32) (x4 : Int32) (x5 : Int32) (x6 : Int32) (x7 : Int32) (x8 : Int32), t_X12_canBe_22 n σ x1 x2 x4 x5 x6 x7 x8 = some (r, s') → m_X12_canBe_22 n (r_H b σ h0) b x1 x2 x4 x5 x6 x7 x8 = some (r, r_H b s' h0) := by
  intro n
  induction n with
  | zero => intro σ x1 x2 x4 x5 x6 x7 x8 hm; cases hm
  | succ n ih =>
    intro σ x1 x2 x4 x5 x6 x7 x8 hm
    unfold t_X12_canBe_22 at hm
    unfold m_X12_canBe_22
    refine r_if _ _ hm (fun _ hm => ?_) (fun _ hm => ?_)
    · refine r_gn_20 ?_
      refine r_as_20 hm (fun σ6 hm => ?_)
      refine r_cV (fun s9 e9 => l_X12_laysBack _ _ _  e9) hm (fun σ8 hm => ?_)
      refine r_if _ _ hm (fun _ hm => ?_) (fun _ hm => ?_)
      · exact r_retS hm
      · exact r_retS hm
    · refine r_gn_20 ?_
      refine r_as_20 hm (fun σ10 hm => ?_)
      refine r_cV (fun s9 e9 => l_X12_begins _ _ _  e9) hm (fun σ12 hm => ?_)
      refine r_cS (fun r9 s9 e9 => l_X12_areAllSo _ _ _ _ e9) hm (fun r13 σ14 hm => ?_)
      refine r_if _ _ hm (fun _ hm => ?_) (fun _ hm => ?_)
      · exact l_X12_canBe_58 _ _ ih _ _ _ _ _ _ _ _ hm
      · exact l_X12_canBe_58 _ _ ih _ _ _ _ _ _ _ _ hm
def t_X12_canBe (σ : r_S) (a1 : Int32) (a2 : Int32) (a3 : Int32) (a4 : Int32) : Option (Int32 × r_S) :=
  (t_ai 106 (r_A σ 20) a1).bind fun v2 =>
  (t_X12_keeps σ).bind fun σ4 =>
  t_X12_canBe_22 q_fu σ4 a1 a2 a4 v2 ((0 : Int32)) ((-2 : Int32)) a3
set_option maxRecDepth 20000 in
theorem l_X12_canBe (b : Nat) (h0 : q_H) (σ : r_S) (a1 : Int32) (a2 : Int32) (a3 : Int32) (a4 : Int32) {r : Int32} {s' : r_S} (hm : t_X12_canBe σ a1 a2 a3 a4 = some (r, s')) : m_X12_canBe (r_H b σ h0) b a1 a2 a3 a4 = some (r, r_H b s' h0) := by
  unfold t_X12_canBe at hm
  unfold m_X12_canBe
  refine r_gn_20 ?_
  refine r_ai_20 hm (fun v2 hm => ?_)
  refine r_cV (fun s9 e9 => l_X12_keeps _ _ _  e9) hm (fun σ4 hm => ?_)
  exact l_X12_canBe_22 _ _ _ _ _ _ _ _ _ _ _ hm
def t_X12_strengths (σ : r_S) (a1 : Int32) (a2 : Int32) : Option (Int32 × r_S) :=
  (t_X12_isPuller σ a1).bind fun r1 =>
  if r1 = 0 then
    some ((-1 : Int32), σ)
  else
    (m_X12_in a2.toInt64 ((0 : Int64)) ((1 : Int64))).bind fun r3 =>
    if r3 = 0 then
      some ((-1 : Int32), σ)
    else
      (t_X12_canBe σ (((52 : Int32) + a1)) ((1 : Int32)) ((40 : Int32)) a2).bind fun (r5, σ6) =>
      some (r5, σ6)
set_option maxRecDepth 20000 in
theorem l_X12_strengths (b : Nat) (h0 : q_H) (σ : r_S) (a1 : Int32) (a2 : Int32) {r : Int32} {s' : r_S} (hm : t_X12_strengths σ a1 a2 = some (r, s')) : m_X12_strengths (r_H b σ h0) b a1 a2 = some (r, r_H b s' h0) := by
  unfold t_X12_strengths at hm
  unfold m_X12_strengths
  refine r_cP (fun r9 e9 => l_X12_isPuller _ _ _ _ e9) hm (fun r1 hm => ?_)
  refine r_if _ _ hm (fun _ hm => ?_) (fun _ hm => ?_)
  · exact r_retS hm
  · refine r_bd hm (fun r3 hm => ?_)
    refine r_if _ _ hm (fun _ hm => ?_) (fun _ hm => ?_)
    · exact r_retS hm
    · refine r_cS (fun r9 s9 e9 => l_X12_canBe _ _ _ _ _ _ _ e9) hm (fun r5 σ6 hm => ?_)
      exact r_retS hm
def t_X12_winds (σ : r_S) (a1 : Int32) (a2 : Int32) : Option (Int32 × r_S) :=
  (t_X12_isPuller σ a1).bind fun r1 =>
  if r1 = 0 then
    some ((-1 : Int32), σ)
  else
    (m_X12_in a2.toInt64 ((0 : Int64)) ((1 : Int64))).bind fun r3 =>
    if r3 = 0 then
      some ((-1 : Int32), σ)
    else
      (t_X12_canBe σ (((76 : Int32) + a1)) ((0 : Int32)) ((60 : Int32)) a2).bind fun (r5, σ6) =>
      some (r5, σ6)
set_option maxRecDepth 20000 in
theorem l_X12_winds (b : Nat) (h0 : q_H) (σ : r_S) (a1 : Int32) (a2 : Int32) {r : Int32} {s' : r_S} (hm : t_X12_winds σ a1 a2 = some (r, s')) : m_X12_winds (r_H b σ h0) b a1 a2 = some (r, r_H b s' h0) := by
  unfold t_X12_winds at hm
  unfold m_X12_winds
  refine r_cP (fun r9 e9 => l_X12_isPuller _ _ _ _ e9) hm (fun r1 hm => ?_)
  refine r_if _ _ hm (fun _ hm => ?_) (fun _ hm => ?_)
  · exact r_retS hm
  · refine r_bd hm (fun r3 hm => ?_)
    refine r_if _ _ hm (fun _ hm => ?_) (fun _ hm => ?_)
    · exact r_retS hm
    · refine r_cS (fun r9 s9 e9 => l_X12_canBe _ _ _ _ _ _ _ e9) hm (fun r5 σ6 hm => ?_)
      exact r_retS hm
def t_X12_seed (σ : r_S) (a1 : Int32) : Option (Int32 × r_S) :=
  if 0 ≤ a1 then
    let v1 := r_I σ 22
    let σ2 := r_si σ 22 (a1)
    some (v1, σ2)
  else
    some ((-1 : Int32), σ)
set_option maxRecDepth 20000 in
theorem l_X12_seed (b : Nat) (h0 : q_H) (σ : r_S) (a1 : Int32) {r : Int32} {s' : r_S} (hm : t_X12_seed σ a1 = some (r, s')) : m_X12_seed (r_H b σ h0) b a1 = some (r, r_H b s' h0) := by
  unfold t_X12_seed at hm
  unfold m_X12_seed
  refine r_if _ _ hm (fun _ hm => ?_) (fun _ hm => ?_)
  · refine r_gi_22 ?_
    refine r_pi_22 ?_
    exact r_retS hm
  · exact r_retS hm
def t_X12_draw (σ : r_S) (a1 : Int32) : Option (Int32 × r_S) :=
  let v1 := r_D σ
  let σ2 := r_sd σ (q_rml (((v1 * (1103515245 : Int64)) + (12345 : Int64))) ((2147483648 : Int64)))
  let v3 := r_D σ2
  if a1.toInt64 = 0 then none else
  some (((q_rml ((v3 / (65536 : Int64))) a1.toInt64)).toInt32, σ2)
set_option maxRecDepth 20000 in
theorem l_X12_draw (b : Nat) (h0 : q_H) (σ : r_S) (a1 : Int32) {r : Int32} {s' : r_S} (hm : t_X12_draw σ a1 = some (r, s')) : m_X12_draw (r_H b σ h0) b a1 = some (r, r_H b s' h0) := by
  unfold t_X12_draw at hm
  unfold m_X12_draw
  refine r_gl_32 ?_
  refine r_pl_32 ?_
  refine r_gl_32 ?_
  refine r_if _ _ hm (fun _ hm => by cases hm) (fun _ hm => ?_)
  exact r_retS hm
def t_X12_rain_135 (k78 : r_S → Int32 → Int32 → Int32 → Int32 → Int32 → Int32 → Int32 → Option (Int32 × r_S)) (k87 : r_S → Int32 → Int32 → Int32 → Int32 → Int32 → Int32 → Int32 → Int32 → Option (Int32 × r_S)) (σ : r_S) (x1 : Int32) (x2 : Int32) (x3 : Int32) (x4 : Int32) (x5 : Int32) (x6 : Int32) (x7 : Int32) (x8 : Int32) : Option (Int32 × r_S) :=
  (t_X12_passes σ).bind fun σ32 =>
  k87 σ32 x1 x2 x3 x4 x5 x6 x7 ((x8 + (1 : Int32)))
set_option maxRecDepth 20000 in
theorem l_X12_rain_135 (b : Nat) (h0 : q_H) {r : Int32} {s' : r_S} {k78 : r_S → Int32 → Int32 → Int32 → Int32 → Int32 → Int32 → Int32 → Option (Int32 × r_S)} {gk78 : q_H → Nat → Int32 → Int32 → Int32 → Int32 → Int32 → Int32 → Int32 → Option (Int32 × q_H)} {k87 : r_S → Int32 → Int32 → Int32 → Int32 → Int32 → Int32 → Int32 → Int32 → Option (Int32 × r_S)} {gk87 : q_H → Nat → Int32 → Int32 → Int32 → Int32 → Int32 → Int32 → Int32 → Int32 → Option (Int32 × q_H)} (hk78 : ∀ (σ : r_S) (x1 : Int32) (x2 : Int32) (x3 : Int32) (x4 : Int32) (x5 : Int32) (x6 : Int32) (x7 : Int32), k78 σ x1 x2 x3 x4 x5 x6 x7 = some (r, s') → gk78 (r_H b σ h0) b x1 x2 x3 x4 x5 x6 x7 = some (r, r_H b s' h0)) (hk87 : ∀ (σ : r_S) (x1 : Int32) (x2 : Int32) (x3 : Int32) (x4 : Int32) (x5 : Int32) (x6 : Int32) (x7 : Int32) (x8 : Int32), k87 σ x1 x2 x3 x4 x5 x6 x7 x8 = some (r, s') → gk87 (r_H b σ h0) b x1 x2 x3 x4 x5 x6 x7 x8 = some (r, r_H b s' h0)) : ∀ (σ : r_S) (x1 : Int32) (x2 : Int32) (x3 : Int32) (x4 : Int32) (x5 : Int32) (x6 : Int32) (x7 : Int32) (x8 : Int32), t_X12_rain_135 k78 k87 σ x1 x2 x3 x4 x5 x6 x7 x8 = some (r, s') → m_X12_rain_135 gk78 gk87 (r_H b σ h0) b x1 x2 x3 x4 x5 x6 x7 x8 = some (r, r_H b s' h0) := by
  intro σ x1 x2 x3 x4 x5 x6 x7 x8 hm
  unfold t_X12_rain_135 at hm
  unfold m_X12_rain_135
  refine r_cV (fun s9 e9 => l_X12_passes _ _ _  e9) hm (fun σ32 hm => ?_)
  exact hk87 _ _ _ _ _ _ _ _ _ hm
def t_X12_rain_168 (k78 : r_S → Int32 → Int32 → Int32 → Int32 → Int32 → Int32 → Int32 → Option (Int32 × r_S)) (σ : r_S) (x1 : Int32) (x2 : Int32) (x3 : Int32) (x4 : Int32) (x6 : Int32) (x7 : Int32) (s0 : Int32) (s1 : Int32) : Option (Int32 × r_S) :=
  (t_ai 106 (r_A σ 20) ((11 : Int32))).bind fun v34 =>
  (t_X12_laysBack σ).bind fun σ36 =>
  k78 σ36 x1 x2 x3 x4 ((s1 + s0)) ((x6 + (v34 + (200 : Int32)))) ((x7 + (1 : Int32)))
set_option maxRecDepth 20000 in
theorem l_X12_rain_168 (b : Nat) (h0 : q_H) {r : Int32} {s' : r_S} {k78 : r_S → Int32 → Int32 → Int32 → Int32 → Int32 → Int32 → Int32 → Option (Int32 × r_S)} {gk78 : q_H → Nat → Int32 → Int32 → Int32 → Int32 → Int32 → Int32 → Int32 → Option (Int32 × q_H)} (hk78 : ∀ (σ : r_S) (x1 : Int32) (x2 : Int32) (x3 : Int32) (x4 : Int32) (x5 : Int32) (x6 : Int32) (x7 : Int32), k78 σ x1 x2 x3 x4 x5 x6 x7 = some (r, s') → gk78 (r_H b σ h0) b x1 x2 x3 x4 x5 x6 x7 = some (r, r_H b s' h0)) : ∀ (σ : r_S) (x1 : Int32) (x2 : Int32) (x3 : Int32) (x4 : Int32) (x6 : Int32) (x7 : Int32) (s0 : Int32) (s1 : Int32), t_X12_rain_168 k78 σ x1 x2 x3 x4 x6 x7 s0 s1 = some (r, s') → m_X12_rain_168 gk78 (r_H b σ h0) b x1 x2 x3 x4 x6 x7 s0 s1 = some (r, r_H b s' h0) := by
  intro σ x1 x2 x3 x4 x6 x7 s0 s1 hm
  unfold t_X12_rain_168 at hm
  unfold m_X12_rain_168
  refine r_gn_20 ?_
  refine r_ai_20 hm (fun v34 hm => ?_)
  refine r_cV (fun s9 e9 => l_X12_laysBack _ _ _  e9) hm (fun σ36 hm => ?_)
  exact hk78 _ _ _ _ _ _ _ _ hm
def t_X12_rain_87 (k78 : r_S → Int32 → Int32 → Int32 → Int32 → Int32 → Int32 → Int32 → Option (Int32 × r_S)) : Nat → r_S → Int32 → Int32 → Int32 → Int32 → Int32 → Int32 → Int32 → Int32 → Option (Int32 × r_S)
  | 0, _, _, _, _, _, _, _, _, _ => none
  | n + 1, σ, x1, x2, x3, x4, x5, x6, x7, x8 =>
    if x2 ≤ x8 then
      (t_ai 106 (r_A σ 20) ((11 : Int32))).bind fun v16 =>
      (t_ai 106 (r_A σ 20) ((1 : Int32))).bind fun v18 =>
      if v16 < v18 then
        t_X12_rain_168 k78 σ x1 x2 x3 x4 x6 x7 ((0 : Int32)) x5
      else
        t_X12_rain_168 k78 σ x1 x2 x3 x4 x6 x7 ((1 : Int32)) x5
    else
      (t_X12_draw σ ((100 : Int32))).bind fun (r19, σ20) =>
      if x3 ≤ r19 then
        t_X12_rain_135 k78 (t_X12_rain_87 k78 n) σ20 x1 x2 x3 x4 x5 x6 x7 x8
      else
        (t_ai 106 (r_A σ20 20) ((3 : Int32))).bind fun v23 =>
        if v23 ≤ 0 then
          t_X12_rain_135 k78 (t_X12_rain_87 k78 n) σ20 x1 x2 x3 x4 x5 x6 x7 x8
        else
          (t_ai 106 (r_A σ20 20) ((3 : Int32))).bind fun v26 =>
          (t_X12_draw σ20 v26).bind fun (r27, σ28) =>
          (t_si 106 σ28 20 ((((12 : Int32) + ((5 : Int32) * r27)) + (3 : Int32))) ((0 : Int32))).bind fun σ30 =>
          t_X12_rain_135 k78 (t_X12_rain_87 k78 n) σ30 x1 x2 x3 x4 x5 x6 x7 x8
set_option maxRecDepth 20000 in
theorem l_X12_rain_87 (b : Nat) (h0 : q_H) {r : Int32} {s' : r_S} {k78 : r_S → Int32 → Int32 → Int32 → Int32 → Int32 → Int32 → Int32 → Option (Int32 × r_S)} {gk78 : q_H → Nat → Int32 → Int32 → Int32 → Int32 → Int32 → Int32 → Int32 → Option (Int32 × q_H)} (hk78 : ∀ (σ : r_S) (x1 : Int32) (x2 : Int32) (x3 : Int32) (x4 : Int32) (x5 : Int32) (x6 : Int32) (x7 : Int32), k78 σ x1 x2 x3 x4 x5 x6 x7 = some (r, s') → gk78 (r_H b σ h0) b x1 x2 x3 x4 x5 x6 x7 = some (r, r_H b s' h0)) : ∀ (n : Nat) (σ : r_S) (x1 : Int32) (x2 : Int32) (x3 : Int32) (x4 : Int32) (x5 : Int32) (x6 : Int32) (x7 : Int32) (x8 : Int32), t_X12_rain_87 k78 n σ x1 x2 x3 x4 x5 x6 x7 x8 = some (r, s') → m_X12_rain_87 gk78 n (r_H b σ h0) b x1 x2 x3 x4 x5 x6 x7 x8 = some (r, r_H b s' h0) := by
  intro n
  induction n with
  | zero => intro σ x1 x2 x3 x4 x5 x6 x7 x8 hm; cases hm
  | succ n ih =>
    intro σ x1 x2 x3 x4 x5 x6 x7 x8 hm
    unfold t_X12_rain_87 at hm
    unfold m_X12_rain_87
    refine r_if _ _ hm (fun _ hm => ?_) (fun _ hm => ?_)
    · refine r_gn_20 ?_
      refine r_ai_20 hm (fun v16 hm => ?_)
      refine r_gn_20 ?_
      refine r_ai_20 hm (fun v18 hm => ?_)
      refine r_if _ _ hm (fun _ hm => ?_) (fun _ hm => ?_)
      · exact l_X12_rain_168 _ _ hk78 _ _ _ _ _ _ _ _ _ hm
      · exact l_X12_rain_168 _ _ hk78 _ _ _ _ _ _ _ _ _ hm
    · refine r_cS (fun r9 s9 e9 => l_X12_draw _ _ _ _ e9) hm (fun r19 σ20 hm => ?_)
      refine r_if _ _ hm (fun _ hm => ?_) (fun _ hm => ?_)
      · exact l_X12_rain_135 _ _ hk78 ih _ _ _ _ _ _ _ _ _ hm
      · refine r_gn_20 ?_
        refine r_ai_20 hm (fun v23 hm => ?_)
        refine r_if _ _ hm (fun _ hm => ?_) (fun _ hm => ?_)
        · exact l_X12_rain_135 _ _ hk78 ih _ _ _ _ _ _ _ _ _ hm
        · refine r_gn_20 ?_
          refine r_gn_20 ?_
          refine r_ai_20 hm (fun v26 hm => ?_)
          refine r_cS (fun r9 s9 e9 => l_X12_draw _ _ _ _ e9) hm (fun r27 σ28 hm => ?_)
          refine r_as_20 hm (fun σ30 hm => ?_)
          exact l_X12_rain_135 _ _ hk78 ih _ _ _ _ _ _ _ _ _ hm
def t_X12_rain_78  : Nat → r_S → Int32 → Int32 → Int32 → Int32 → Int32 → Int32 → Int32 → Option (Int32 × r_S)
  | 0, _, _, _, _, _, _, _, _ => none
  | n + 1, σ, x1, x2, x3, x4, x5, x6, x7 =>
    if x1 ≤ x7 then
      if x4 = 0 then
        some (x5, σ)
      else
        some (x6, σ)
    else
      t_X12_rain_87 (t_X12_rain_78 n) q_fu σ x1 x2 x3 x4 x5 x6 x7 ((0 : Int32))
set_option maxRecDepth 20000 in
theorem l_X12_rain_78 (b : Nat) (h0 : q_H) {r : Int32} {s' : r_S} : ∀ (n : Nat) (σ : r_S) (x1 : Int32) (x2 : Int32) (x3 : Int32) (x4 : Int32) (x5 : Int32) (x6 : Int32) (x7 : Int32), t_X12_rain_78 n σ x1 x2 x3 x4 x5 x6 x7 = some (r, s') → m_X12_rain_78 n (r_H b σ h0) b x1 x2 x3 x4 x5 x6 x7 = some (r, r_H b s' h0) := by
  intro n
  induction n with
  | zero => intro σ x1 x2 x3 x4 x5 x6 x7 hm; cases hm
  | succ n ih =>
    intro σ x1 x2 x3 x4 x5 x6 x7 hm
    unfold t_X12_rain_78 at hm
    unfold m_X12_rain_78
    refine r_if _ _ hm (fun _ hm => ?_) (fun _ hm => ?_)
    · refine r_if _ _ hm (fun _ hm => ?_) (fun _ hm => ?_)
      · exact r_retS hm
      · exact r_retS hm
    · exact l_X12_rain_87 _ _ ih _ _ _ _ _ _ _ _ _ _ hm
def t_X12_rain (σ : r_S) (a1 : Int32) (a2 : Int32) (a3 : Int32) (a4 : Int32) : Option (Int32 × r_S) :=
  (t_X12_isRope σ).bind fun r1 =>
  if r1 = 0 then
    some ((-1 : Int32), σ)
  else
    (m_X12_in a1.toInt64 ((1 : Int64)) ((10 : Int64))).bind fun r3 =>
    if r3 = 0 then
      some ((-1 : Int32), σ)
    else
      (m_X12_in a2.toInt64 ((1 : Int64)) ((60 : Int64))).bind fun r5 =>
      if r5 = 0 then
        some ((-1 : Int32), σ)
      else
        (m_X12_in a3.toInt64 ((0 : Int64)) ((100 : Int64))).bind fun r7 =>
        if r7 = 0 then
          some ((-1 : Int32), σ)
        else
          (m_X12_in a4.toInt64 ((0 : Int64)) ((1 : Int64))).bind fun r9 =>
          if r9 = 0 then
            some ((-1 : Int32), σ)
          else
            let v11 := r_I σ 22
            let σ12 := r_sd σ (v11.toInt64)
            (t_X12_keeps σ12).bind fun σ14 =>
            t_X12_rain_78 q_fu σ14 a1 a2 a3 a4 ((0 : Int32)) ((0 : Int32)) ((0 : Int32))
set_option maxRecDepth 20000 in
theorem l_X12_rain (b : Nat) (h0 : q_H) (σ : r_S) (a1 : Int32) (a2 : Int32) (a3 : Int32) (a4 : Int32) {r : Int32} {s' : r_S} (hm : t_X12_rain σ a1 a2 a3 a4 = some (r, s')) : m_X12_rain (r_H b σ h0) b a1 a2 a3 a4 = some (r, r_H b s' h0) := by
  unfold t_X12_rain at hm
  unfold m_X12_rain
  refine r_cP (fun r9 e9 => l_X12_isRope _ _ _  e9) hm (fun r1 hm => ?_)
  refine r_if _ _ hm (fun _ hm => ?_) (fun _ hm => ?_)
  · exact r_retS hm
  · refine r_bd hm (fun r3 hm => ?_)
    refine r_if _ _ hm (fun _ hm => ?_) (fun _ hm => ?_)
    · exact r_retS hm
    · refine r_bd hm (fun r5 hm => ?_)
      refine r_if _ _ hm (fun _ hm => ?_) (fun _ hm => ?_)
      · exact r_retS hm
      · refine r_bd hm (fun r7 hm => ?_)
        refine r_if _ _ hm (fun _ hm => ?_) (fun _ hm => ?_)
        · exact r_retS hm
        · refine r_bd hm (fun r9 hm => ?_)
          refine r_if _ _ hm (fun _ hm => ?_) (fun _ hm => ?_)
          · exact r_retS hm
          · refine r_gi_22 ?_
            refine r_pl_32 ?_
            refine r_cV (fun s9 e9 => l_X12_keeps _ _ _  e9) hm (fun σ14 hm => ?_)
            exact l_X12_rain_78 _ _ _ _ _ _ _ _ _ _ _ hm
def t_X12_count (σ0 : r_S) (a1 : Int32) : Option Int32 :=
  if a1 = 0 then
    (t_ai 106 (r_A σ0 20) ((a1 + (1 : Int32)))).bind fun v2 =>
    some v2
  else
    if a1 = 1 then
      (t_ai 106 (r_A σ0 20) ((a1 + (1 : Int32)))).bind fun v4 =>
      some v4
    else
      if a1 = 2 then
        (t_ai 106 (r_A σ0 20) ((a1 + (1 : Int32)))).bind fun v6 =>
        some v6
      else
        if a1 = 3 then
          let v7 := r_I σ0 2
          some v7
        else
          if a1 = 4 then
            let v8 := r_I σ0 21
            some v8
          else
            if a1 = 5 then
              (t_ai 106 (r_A σ0 20) ((10 : Int32))).bind fun v10 =>
              some v10
            else
              if a1 = 6 then
                (t_X12_onesOn σ0 ((0 : Int32))).bind fun r11 =>
                some r11
              else
                if a1 = 7 then
                  (t_X12_upOnes σ0).bind fun r13 =>
                  some r13
                else
                  if a1 = 8 then
                    (t_X12_isRope σ0).bind fun r15 =>
                    if r15 = 0 then
                      some ((0 : Int32))
                    else
                      (t_X12_isOver σ0).bind fun r17 =>
                      if r17 = 0 then
                        some ((0 : Int32))
                      else
                        some ((1 : Int32))
                  else
                    if a1 = 9 then
                      (t_X12_workAll σ0).bind fun r19 =>
                      some r19
                    else
                      if a1 = 10 then
                        (t_ai 106 (r_A σ0 20) ((105 : Int32))).bind fun v22 =>
                        some v22
                      else
                        if a1 = 11 then
                          let v23 := r_I σ0 26
                          some v23
                        else
                          if a1 = 12 then
                            let v24 := r_I σ0 22
                            some v24
                          else
                            if a1 = 13 then
                              let v25 := r_I σ0 1
                              some v25
                            else
                              some ((-1 : Int32))
set_option maxRecDepth 20000 in
theorem l_X12_count (b : Nat) (h0 : q_H) (σ0 : r_S) (a1 : Int32) {r : Int32} (hm : t_X12_count σ0 a1 = some r) : m_X12_count (r_H b σ0 h0) b a1 = some r := by
  unfold t_X12_count at hm
  unfold m_X12_count
  refine r_if _ _ hm (fun _ hm => ?_) (fun _ hm => ?_)
  · refine r_gn_20 ?_
    refine r_ai_20 hm (fun v2 hm => ?_)
    exact hm
  · refine r_if _ _ hm (fun _ hm => ?_) (fun _ hm => ?_)
    · refine r_gn_20 ?_
      refine r_ai_20 hm (fun v4 hm => ?_)
      exact hm
    · refine r_if _ _ hm (fun _ hm => ?_) (fun _ hm => ?_)
      · refine r_gn_20 ?_
        refine r_ai_20 hm (fun v6 hm => ?_)
        exact hm
      · refine r_if _ _ hm (fun _ hm => ?_) (fun _ hm => ?_)
        · refine r_gi_2 ?_
          exact hm
        · refine r_if _ _ hm (fun _ hm => ?_) (fun _ hm => ?_)
          · refine r_gi_21 ?_
            exact hm
          · refine r_if _ _ hm (fun _ hm => ?_) (fun _ hm => ?_)
            · refine r_gn_20 ?_
              refine r_ai_20 hm (fun v10 hm => ?_)
              exact hm
            · refine r_if _ _ hm (fun _ hm => ?_) (fun _ hm => ?_)
              · refine r_cP (fun r9 e9 => l_X12_onesOn _ _ _ _ e9) hm (fun r11 hm => ?_)
                exact hm
              · refine r_if _ _ hm (fun _ hm => ?_) (fun _ hm => ?_)
                · refine r_cP (fun r9 e9 => l_X12_upOnes _ _ _  e9) hm (fun r13 hm => ?_)
                  exact hm
                · refine r_if _ _ hm (fun _ hm => ?_) (fun _ hm => ?_)
                  · refine r_cP (fun r9 e9 => l_X12_isRope _ _ _  e9) hm (fun r15 hm => ?_)
                    refine r_if _ _ hm (fun _ hm => ?_) (fun _ hm => ?_)
                    · exact hm
                    · refine r_cP (fun r9 e9 => l_X12_isOver _ _ _  e9) hm (fun r17 hm => ?_)
                      refine r_if _ _ hm (fun _ hm => ?_) (fun _ hm => ?_)
                      · exact hm
                      · exact hm
                  · refine r_if _ _ hm (fun _ hm => ?_) (fun _ hm => ?_)
                    · refine r_cP (fun r9 e9 => l_X12_workAll _ _ _  e9) hm (fun r19 hm => ?_)
                      exact hm
                    · refine r_if _ _ hm (fun _ hm => ?_) (fun _ hm => ?_)
                      · refine r_gn_20 ?_
                        refine r_ai_20 hm (fun v22 hm => ?_)
                        exact hm
                      · refine r_if _ _ hm (fun _ hm => ?_) (fun _ hm => ?_)
                        · refine r_gi_26 ?_
                          exact hm
                        · refine r_if _ _ hm (fun _ hm => ?_) (fun _ hm => ?_)
                          · refine r_gi_22 ?_
                            exact hm
                          · refine r_if _ _ hm (fun _ hm => ?_) (fun _ hm => ?_)
                            · refine r_gi_1 ?_
                              exact hm
                            · exact hm
def t_X12_image_43  : Nat → r_S → Int32 → Int32 → Option (Int32 × r_S)
  | 0, _, _, _ => none
  | n + 1, σ, x1, x2 =>
    if (106 : Int32) ≤ x2 then
      (t_ai 106 (r_A σ 20) ((10 : Int32))).bind fun v12 =>
      some (v12, σ)
    else
      (t_ai 106 (r_A σ 20) x2).bind fun v15 =>
      (t_si 424 σ 33 ((((106 : Int32) * x1) + x2)) v15).bind fun σ16 =>
      t_X12_image_43 n σ16 x1 ((x2 + (1 : Int32)))
set_option maxRecDepth 20000 in
theorem l_X12_image_43 (b : Nat) (h0 : q_H) {r : Int32} {s' : r_S} : ∀ (n : Nat) (σ : r_S) (x1 : Int32) (x2 : Int32), t_X12_image_43 n σ x1 x2 = some (r, s') → m_X12_image_43 n (r_H b σ h0) b x1 x2 = some (r, r_H b s' h0) := by
  intro n
  induction n with
  | zero => intro σ x1 x2 hm; cases hm
  | succ n ih =>
    intro σ x1 x2 hm
    unfold t_X12_image_43 at hm
    unfold m_X12_image_43
    refine r_if _ _ hm (fun _ hm => ?_) (fun _ hm => ?_)
    · refine r_gn_20 ?_
      refine r_ai_20 hm (fun v12 hm => ?_)
      exact r_retS hm
    · refine r_gn_33 ?_
      refine r_gn_20 ?_
      refine r_ai_20 hm (fun v15 hm => ?_)
      refine r_as_33 hm (fun σ16 hm => ?_)
      exact ih _ _ _ hm
def t_X12_image (σ : r_S) (a1 : Int32) : Option (Int32 × r_S) :=
  (m_X12_in a1.toInt64 ((0 : Int64)) ((3 : Int64))).bind fun r1 =>
  if r1 = 0 then
    some ((-1 : Int32), σ)
  else
    (t_si 4 σ 36 a1 (vp_nar .boolean ((1 : Int32)))).bind fun σ4 =>
    let v6 := r_I σ4 21
    (t_si 4 σ4 34 a1 v6).bind fun σ7 =>
    let v9 := r_I σ7 22
    (t_si 4 σ7 35 a1 v9).bind fun σ10 =>
    t_X12_image_43 q_fu σ10 a1 ((0 : Int32))
set_option maxRecDepth 20000 in
theorem l_X12_image (b : Nat) (h0 : q_H) (σ : r_S) (a1 : Int32) {r : Int32} {s' : r_S} (hm : t_X12_image σ a1 = some (r, s')) : m_X12_image (r_H b σ h0) b a1 = some (r, r_H b s' h0) := by
  unfold t_X12_image at hm
  unfold m_X12_image
  refine r_bd hm (fun r1 hm => ?_)
  refine r_if _ _ hm (fun _ hm => ?_) (fun _ hm => ?_)
  · exact r_retS hm
  · refine r_gn_36 ?_
    refine r_as_36 hm (fun σ4 hm => ?_)
    refine r_gn_34 ?_
    refine r_gi_21 ?_
    refine r_as_34 hm (fun σ7 hm => ?_)
    refine r_gn_35 ?_
    refine r_gi_22 ?_
    refine r_as_35 hm (fun σ10 hm => ?_)
    exact l_X12_image_43 _ _ _ _ _ _ hm
def t_X12_back_50  : Nat → r_S → Int32 → Int32 → Option (Int32 × r_S)
  | 0, _, _, _ => none
  | n + 1, σ, x1, x2 =>
    if (106 : Int32) ≤ x2 then
      (t_ai 106 (r_A σ 20) ((10 : Int32))).bind fun v13 =>
      some (v13, σ)
    else
      (t_ai 424 (r_A σ 33) ((((106 : Int32) * x1) + x2))).bind fun v16 =>
      (t_si 106 σ 20 x2 v16).bind fun σ17 =>
      t_X12_back_50 n σ17 x1 ((x2 + (1 : Int32)))
set_option maxRecDepth 20000 in
theorem l_X12_back_50 (b : Nat) (h0 : q_H) {r : Int32} {s' : r_S} : ∀ (n : Nat) (σ : r_S) (x1 : Int32) (x2 : Int32), t_X12_back_50 n σ x1 x2 = some (r, s') → m_X12_back_50 n (r_H b σ h0) b x1 x2 = some (r, r_H b s' h0) := by
  intro n
  induction n with
  | zero => intro σ x1 x2 hm; cases hm
  | succ n ih =>
    intro σ x1 x2 hm
    unfold t_X12_back_50 at hm
    unfold m_X12_back_50
    refine r_if _ _ hm (fun _ hm => ?_) (fun _ hm => ?_)
    · refine r_gn_20 ?_
      refine r_ai_20 hm (fun v13 hm => ?_)
      exact r_retS hm
    · refine r_gn_20 ?_
      refine r_gn_33 ?_
      refine r_ai_33 hm (fun v16 hm => ?_)
      refine r_as_20 hm (fun σ17 hm => ?_)
      exact ih _ _ _ hm
def t_X12_back (σ : r_S) (a1 : Int32) : Option (Int32 × r_S) :=
  (m_X12_in a1.toInt64 ((0 : Int64)) ((3 : Int64))).bind fun r1 =>
  if r1 = 0 then
    some ((-1 : Int32), σ)
  else
    (t_ai 4 (r_A σ 36) a1).bind fun v4 =>
    if v4 = 0 then
      some ((-1 : Int32), σ)
    else
      (t_ai 4 (r_A σ 34) a1).bind fun v6 =>
      let σ7 := r_si σ 21 (v6)
      (t_ai 4 (r_A σ7 35) a1).bind fun v9 =>
      let σ10 := r_si σ7 22 (v9)
      let σ11 := r_si σ10 26 (0 : Int32)
      t_X12_back_50 q_fu σ11 a1 ((0 : Int32))
set_option maxRecDepth 20000 in
theorem l_X12_back (b : Nat) (h0 : q_H) (σ : r_S) (a1 : Int32) {r : Int32} {s' : r_S} (hm : t_X12_back σ a1 = some (r, s')) : m_X12_back (r_H b σ h0) b a1 = some (r, r_H b s' h0) := by
  unfold t_X12_back at hm
  unfold m_X12_back
  refine r_bd hm (fun r1 hm => ?_)
  refine r_if _ _ hm (fun _ hm => ?_) (fun _ hm => ?_)
  · exact r_retS hm
  · refine r_gn_36 ?_
    refine r_ai_36 hm (fun v4 hm => ?_)
    refine r_if _ _ hm (fun _ hm => ?_) (fun _ hm => ?_)
    · exact r_retS hm
    · refine r_gn_34 ?_
      refine r_ai_34 hm (fun v6 hm => ?_)
      refine r_pi_21 ?_
      refine r_gn_35 ?_
      refine r_ai_35 hm (fun v9 hm => ?_)
      refine r_pi_22 ?_
      refine r_pi_26 ?_
      exact l_X12_back_50 _ _ _ _ _ _ hm
