def t_X12_isRopeWord (σ : r_S) : Option (Int32 × r_S) :=
  (t_X12_isWord σ ((1919905893 : Int64))).bind fun (r1, σ2) =>
  if r1 = 0 then
    (t_X12_isWord σ2 ((123649632527730 : Int64))).bind fun (r4, σ5) =>
    if r4 = 0 then
      (t_X12_isWord σ5 ((125796947750766 : Int64))).bind fun (r7, σ8) =>
      if r7 = 0 then
        some ((0 : Int32), σ8)
      else
        some ((1 : Int32), σ8)
    else
      some ((1 : Int32), σ5)
  else
    some ((1 : Int32), σ2)
set_option maxRecDepth 20000 in
theorem l_X12_isRopeWord (b : Nat) (h0 : q_H) (σ : r_S)  {r : Int32} {s' : r_S} (hm : t_X12_isRopeWord σ = some (r, s')) : m_X12_isRopeWord (r_H b σ h0) b = some (r, r_H b s' h0) := by
  unfold t_X12_isRopeWord at hm
  unfold m_X12_isRopeWord
  refine r_cS (fun r9 s9 e9 => l_X12_isWord _ _ _ _ e9) hm (fun r1 σ2 hm => ?_)
  refine r_if _ _ hm (fun _ hm => ?_) (fun _ hm => ?_)
  · refine r_cS (fun r9 s9 e9 => l_X12_isWord _ _ _ _ e9) hm (fun r4 σ5 hm => ?_)
    refine r_if _ _ hm (fun _ hm => ?_) (fun _ hm => ?_)
    · refine r_cS (fun r9 s9 e9 => l_X12_isWord _ _ _ _ e9) hm (fun r7 σ8 hm => ?_)
      refine r_if _ _ hm (fun _ hm => ?_) (fun _ hm => ?_)
      · exact r_retS hm
      · exact r_retS hm
    · exact r_retS hm
  · exact r_retS hm
def t_X12_clauseHere_49 (σ : r_S) (x1 : Int32) : Option (Int32 × r_S) :=
  (t_X12_fails σ ((0 : Int32)) x1).bind fun (r12, σ13) =>
  some (r12, σ13)
set_option maxRecDepth 20000 in
theorem l_X12_clauseHere_49 (b : Nat) (h0 : q_H) {r : Int32} {s' : r_S} : ∀ (σ : r_S) (x1 : Int32), t_X12_clauseHere_49 σ x1 = some (r, s') → m_X12_clauseHere_49 (r_H b σ h0) b x1 = some (r, r_H b s' h0) := by
  intro σ x1 hm
  unfold t_X12_clauseHere_49 at hm
  unfold m_X12_clauseHere_49
  refine r_cS (fun r9 s9 e9 => l_X12_fails _ _ _ _ _ e9) hm (fun r12 σ13 hm => ?_)
  exact r_retS hm
def t_X12_clauseHere_71 (σ : r_S) (x1 : Int32) (x2 : Int32) (s0 : Int32) (s1 : Int32) : Option (Int32 × r_S) :=
  if s1 = s0 then
    (t_X12_fails σ ((4 : Int32)) x1).bind fun (r24, σ25) =>
    some (r24, σ25)
  else
    let v16 := r_I σ 14
    let σ17 := r_si σ 14 (v16 + (1 : Int32))
    if x2 = 0 then
      (t_X12_isPullHere σ17).bind fun (r18, σ19) =>
      some (r18, σ19)
    else
      (t_X12_ropeLineHere σ17 x1).bind fun (r21, σ22) =>
      some (r21, σ22)
set_option maxRecDepth 20000 in
theorem l_X12_clauseHere_71 (b : Nat) (h0 : q_H) {r : Int32} {s' : r_S} : ∀ (σ : r_S) (x1 : Int32) (x2 : Int32) (s0 : Int32) (s1 : Int32), t_X12_clauseHere_71 σ x1 x2 s0 s1 = some (r, s') → m_X12_clauseHere_71 (r_H b σ h0) b x1 x2 s0 s1 = some (r, r_H b s' h0) := by
  intro σ x1 x2 s0 s1 hm
  unfold t_X12_clauseHere_71 at hm
  unfold m_X12_clauseHere_71
  refine r_if _ _ hm (fun _ hm => ?_) (fun _ hm => ?_)
  · refine r_cS (fun r9 s9 e9 => l_X12_fails _ _ _ _ _ e9) hm (fun r24 σ25 hm => ?_)
    exact r_retS hm
  · refine r_gi_14 ?_
    refine r_pi_14 ?_
    refine r_if _ _ hm (fun _ hm => ?_) (fun _ hm => ?_)
    · refine r_cS (fun r9 s9 e9 => l_X12_isPullHere _ _ _  e9) hm (fun r18 σ19 hm => ?_)
      exact r_retS hm
    · refine r_cS (fun r9 s9 e9 => l_X12_ropeLineHere _ _ _ _ e9) hm (fun r21 σ22 hm => ?_)
      exact r_retS hm
def t_X12_clauseHere_56 (σ : r_S) (x1 : Int32) (x2 : Int32) : Option (Int32 × r_S) :=
  let v15 := r_I σ 14
  if x2 = 0 then
    t_X12_clauseHere_71 σ x1 x2 ((12 : Int32)) v15
  else
    t_X12_clauseHere_71 σ x1 x2 ((40 : Int32)) v15
set_option maxRecDepth 20000 in
theorem l_X12_clauseHere_56 (b : Nat) (h0 : q_H) {r : Int32} {s' : r_S} : ∀ (σ : r_S) (x1 : Int32) (x2 : Int32), t_X12_clauseHere_56 σ x1 x2 = some (r, s') → m_X12_clauseHere_56 (r_H b σ h0) b x1 x2 = some (r, r_H b s' h0) := by
  intro σ x1 x2 hm
  unfold t_X12_clauseHere_56 at hm
  unfold m_X12_clauseHere_56
  refine r_gi_14 ?_
  refine r_if _ _ hm (fun _ hm => ?_) (fun _ hm => ?_)
  · exact l_X12_clauseHere_71 _ _ _ _ _ _ _ hm
  · exact l_X12_clauseHere_71 _ _ _ _ _ _ _ hm
def t_X12_clauseHere_24 (σ : r_S) (x1 : Int32) (s0 : Int32) : Option (Int32 × r_S) :=
  if s0 = 0 then
    (t_X12_isWord σ ((1886743660 : Int64))).bind fun (r6, σ7) =>
    if r6 = 0 then
      t_X12_clauseHere_49 σ7 x1
    else
      t_X12_clauseHere_56 σ7 x1 s0
  else
    (t_X12_isRopeWord σ).bind fun (r9, σ10) =>
    if r9 = 0 then
      t_X12_clauseHere_49 σ10 x1
    else
      t_X12_clauseHere_56 σ10 x1 s0
set_option maxRecDepth 20000 in
theorem l_X12_clauseHere_24 (b : Nat) (h0 : q_H) {r : Int32} {s' : r_S} : ∀ (σ : r_S) (x1 : Int32) (s0 : Int32), t_X12_clauseHere_24 σ x1 s0 = some (r, s') → m_X12_clauseHere_24 (r_H b σ h0) b x1 s0 = some (r, r_H b s' h0) := by
  intro σ x1 s0 hm
  unfold t_X12_clauseHere_24 at hm
  unfold m_X12_clauseHere_24
  refine r_if _ _ hm (fun _ hm => ?_) (fun _ hm => ?_)
  · refine r_cS (fun r9 s9 e9 => l_X12_isWord _ _ _ _ e9) hm (fun r6 σ7 hm => ?_)
    refine r_if _ _ hm (fun _ hm => ?_) (fun _ hm => ?_)
    · exact l_X12_clauseHere_49 _ _ _ _ hm
    · exact l_X12_clauseHere_56 _ _ _ _ _ hm
  · refine r_cS (fun r9 s9 e9 => l_X12_isRopeWord _ _ _  e9) hm (fun r9 σ10 hm => ?_)
    refine r_if _ _ hm (fun _ hm => ?_) (fun _ hm => ?_)
    · exact l_X12_clauseHere_49 _ _ _ _ hm
    · exact l_X12_clauseHere_56 _ _ _ _ _ hm
def t_X12_clauseHere (σ : r_S) : Option (Int32 × r_S) :=
  (t_X12_see σ).bind fun (r1, σ2) =>
  let v4 := r_I σ2 8
  let v5 := r_I σ2 11
  if v5 = (6 : Int32) then
    t_X12_clauseHere_24 σ2 v4 ((1 : Int32))
  else
    t_X12_clauseHere_24 σ2 v4 ((0 : Int32))
set_option maxRecDepth 20000 in
theorem l_X12_clauseHere (b : Nat) (h0 : q_H) (σ : r_S)  {r : Int32} {s' : r_S} (hm : t_X12_clauseHere σ = some (r, s')) : m_X12_clauseHere (r_H b σ h0) b = some (r, r_H b s' h0) := by
  unfold t_X12_clauseHere at hm
  unfold m_X12_clauseHere
  refine r_cS (fun r9 s9 e9 => l_X12_see _ _ _  e9) hm (fun r1 σ2 hm => ?_)
  refine r_gi_8 ?_
  refine r_gi_11 ?_
  refine r_if _ _ hm (fun _ hm => ?_) (fun _ hm => ?_)
  · exact l_X12_clauseHere_24 _ _ _ _ _ hm
  · exact l_X12_clauseHere_24 _ _ _ _ _ hm
def t_X12_readsAll_88 (σ : r_S) : Option (Int32 × r_S) :=
  let σ26 := r_si σ 1 (0 : Int32)
  let v27 := r_I σ26 9
  if v27 = 0 then
    some ((1 : Int32), σ26)
  else
    some ((0 : Int32), σ26)
set_option maxRecDepth 20000 in
theorem l_X12_readsAll_88 (b : Nat) (h0 : q_H) {r : Int32} {s' : r_S} : ∀ (σ : r_S), t_X12_readsAll_88 σ = some (r, s') → m_X12_readsAll_88 (r_H b σ h0) b = some (r, r_H b s' h0) := by
  intro σ hm
  unfold t_X12_readsAll_88 at hm
  unfold m_X12_readsAll_88
  refine r_pi_1 ?_
  refine r_gi_9 ?_
  refine r_if _ _ hm (fun _ hm => ?_) (fun _ hm => ?_)
  · exact r_retS hm
  · exact r_retS hm
def t_X12_readsAll_66 (σ : r_S) (x1 : Int32) : Option (Int32 × r_S) :=
  if x1 = 0 then
    t_X12_readsAll_88 σ
  else
    (t_X12_see σ).bind fun (r19, σ20) =>
    if r19 = (-1 : Int32) then
      t_X12_readsAll_88 σ20
    else
      let v22 := r_I σ20 8
      (t_X12_fails σ20 ((0 : Int32)) v22).bind fun (r23, σ24) =>
      t_X12_readsAll_88 σ24
set_option maxRecDepth 20000 in
theorem l_X12_readsAll_66 (b : Nat) (h0 : q_H) {r : Int32} {s' : r_S} : ∀ (σ : r_S) (x1 : Int32), t_X12_readsAll_66 σ x1 = some (r, s') → m_X12_readsAll_66 (r_H b σ h0) b x1 = some (r, r_H b s' h0) := by
  intro σ x1 hm
  unfold t_X12_readsAll_66 at hm
  unfold m_X12_readsAll_66
  refine r_if _ _ hm (fun _ hm => ?_) (fun _ hm => ?_)
  · exact l_X12_readsAll_88 _ _ _ hm
  · refine r_cS (fun r9 s9 e9 => l_X12_see _ _ _  e9) hm (fun r19 σ20 hm => ?_)
    refine r_if _ _ hm (fun _ hm => ?_) (fun _ hm => ?_)
    · exact l_X12_readsAll_88 _ _ _ hm
    · refine r_gi_8 ?_
      refine r_cS (fun r9 s9 e9 => l_X12_fails _ _ _ _ _ e9) hm (fun r23 σ24 hm => ?_)
      exact l_X12_readsAll_88 _ _ _ hm
def t_X12_readsAll_35  : Nat → r_S → Int32 → Option (Int32 × r_S)
  | 0, _, _ => none
  | n + 1, σ, x1 =>
    if x1 = 0 then
      t_X12_readsAll_66 σ x1
    else
      (t_X12_see σ).bind fun (r11, σ12) =>
      if r11 = (59 : Int32) then
        let v14 := r_I σ12 8
        let σ15 := r_si σ12 8 (v14 + (1 : Int32))
        (t_X12_clauseHere σ15).bind fun (r16, σ17) =>
        t_X12_readsAll_35 n σ17 r16
      else
        t_X12_readsAll_66 σ12 x1
set_option maxRecDepth 20000 in
theorem l_X12_readsAll_35 (b : Nat) (h0 : q_H) {r : Int32} {s' : r_S} : ∀ (n : Nat) (σ : r_S) (x1 : Int32), t_X12_readsAll_35 n σ x1 = some (r, s') → m_X12_readsAll_35 n (r_H b σ h0) b x1 = some (r, r_H b s' h0) := by
  intro n
  induction n with
  | zero => intro σ x1 hm; cases hm
  | succ n ih =>
    intro σ x1 hm
    unfold t_X12_readsAll_35 at hm
    unfold m_X12_readsAll_35
    refine r_if _ _ hm (fun _ hm => ?_) (fun _ hm => ?_)
    · exact l_X12_readsAll_66 _ _ _ _ hm
    · refine r_cS (fun r9 s9 e9 => l_X12_see _ _ _  e9) hm (fun r11 σ12 hm => ?_)
      refine r_if _ _ hm (fun _ hm => ?_) (fun _ hm => ?_)
      · refine r_gi_8 ?_
        refine r_pi_8 ?_
        refine r_cS (fun r9 s9 e9 => l_X12_clauseHere _ _ _  e9) hm (fun r16 σ17 hm => ?_)
        exact ih _ _ hm
      · exact l_X12_readsAll_66 _ _ _ _ hm
def t_X12_readsAll (σ : r_S) : Option (Int32 × r_S) :=
  let v2 := r_I σ 11
  (t_si 7 σ 4 v2 ((0 : Int32))).bind fun σ3 =>
  let σ4 := r_si σ3 14 (0 : Int32)
  let σ5 := r_si σ4 8 (0 : Int32)
  let σ6 := r_si σ5 9 (0 : Int32)
  let σ7 := r_si σ6 12 (0 : Int32)
  (t_X12_clauseHere σ7).bind fun (r8, σ9) =>
  t_X12_readsAll_35 q_fu σ9 r8
set_option maxRecDepth 20000 in
theorem l_X12_readsAll (b : Nat) (h0 : q_H) (σ : r_S)  {r : Int32} {s' : r_S} (hm : t_X12_readsAll σ = some (r, s')) : m_X12_readsAll (r_H b σ h0) b = some (r, r_H b s' h0) := by
  unfold t_X12_readsAll at hm
  unfold m_X12_readsAll
  refine r_gn_4 ?_
  refine r_gi_11 ?_
  refine r_as_4 hm (fun σ3 hm => ?_)
  refine r_pi_14 ?_
  refine r_pi_8 ?_
  refine r_pi_9 ?_
  refine r_pi_12 ?_
  refine r_cS (fun r9 s9 e9 => l_X12_clauseHere _ _ _  e9) hm (fun r8 σ9 hm => ?_)
  exact l_X12_readsAll_35 _ _ _ _ _ hm
def t_X12_rule (σ : r_S) : Option (Int32 × r_S) :=
  let v1 := r_I σ 2
  if v1 = (6 : Int32) then
    some ((-1 : Int32), σ)
  else
    let v2 := r_I σ 2
    let σ3 := r_si σ 11 (v2)
    let v5 := r_I σ3 11
    (t_si 6 σ3 6 v5 ((0 : Int32))).bind fun σ6 =>
    (t_X12_readsAll σ6).bind fun (r7, σ8) =>
    if r7 = 0 then
      let v13 := r_I σ8 9
      some (((-2 : Int32) - v13), σ8)
    else
      let v10 := r_I σ8 2
      let σ11 := r_si σ8 2 (v10 + (1 : Int32))
      let v12 := r_I σ11 2
      some ((v12 - (1 : Int32)), σ11)
set_option maxRecDepth 20000 in
theorem l_X12_rule (b : Nat) (h0 : q_H) (σ : r_S)  {r : Int32} {s' : r_S} (hm : t_X12_rule σ = some (r, s')) : m_X12_rule (r_H b σ h0) b = some (r, r_H b s' h0) := by
  unfold t_X12_rule at hm
  unfold m_X12_rule
  refine r_gi_2 ?_
  refine r_if _ _ hm (fun _ hm => ?_) (fun _ hm => ?_)
  · exact r_retS hm
  · refine r_gi_2 ?_
    refine r_pi_11 ?_
    refine r_gn_6 ?_
    refine r_gi_11 ?_
    refine r_as_6 hm (fun σ6 hm => ?_)
    refine r_cS (fun r9 s9 e9 => l_X12_readsAll _ _ _  e9) hm (fun r7 σ8 hm => ?_)
    refine r_if _ _ hm (fun _ hm => ?_) (fun _ hm => ?_)
    · refine r_gi_9 ?_
      exact r_retS hm
    · refine r_gi_2 ?_
      refine r_pi_2 ?_
      refine r_gi_2 ?_
      exact r_retS hm
def t_X12_begins_103 (k24 : r_S → Int32 → Option r_S) (k63 : r_S → Int32 → Int32 → Int32 → Option r_S) (σ : r_S) (x1 : Int32) (x2 : Int32) (x3 : Int32) (s0 : Int32) (s1 : Int32) (s2 : Int32) : Option r_S :=
  (t_si 106 σ 20 s2 ((s1 + s0))).bind fun σ27 =>
  k63 σ27 x1 x2 ((x3 + (1 : Int32)))
set_option maxRecDepth 20000 in
theorem l_X12_begins_103 (b : Nat) (h0 : q_H) {s' : r_S} {k24 : r_S → Int32 → Option r_S} {gk24 : q_H → Nat → Int32 → Option q_H} {k63 : r_S → Int32 → Int32 → Int32 → Option r_S} {gk63 : q_H → Nat → Int32 → Int32 → Int32 → Option q_H} (hk24 : ∀ (σ : r_S) (x1 : Int32), k24 σ x1 = some s' → gk24 (r_H b σ h0) b x1 = some (r_H b s' h0)) (hk63 : ∀ (σ : r_S) (x1 : Int32) (x2 : Int32) (x3 : Int32), k63 σ x1 x2 x3 = some s' → gk63 (r_H b σ h0) b x1 x2 x3 = some (r_H b s' h0)) : ∀ (σ : r_S) (x1 : Int32) (x2 : Int32) (x3 : Int32) (s0 : Int32) (s1 : Int32) (s2 : Int32), t_X12_begins_103 k24 k63 σ x1 x2 x3 s0 s1 s2 = some s' → m_X12_begins_103 gk24 gk63 (r_H b σ h0) b x1 x2 x3 s0 s1 s2 (b + 10) = some (r_H b s' h0) := by
  intro σ x1 x2 x3 s0 s1 s2 hm
  unfold t_X12_begins_103 at hm
  unfold m_X12_begins_103
  refine r_as_20 hm (fun σ27 hm => ?_)
  exact hk63 _ _ _ _ hm
def t_X12_begins_63 (k24 : r_S → Int32 → Option r_S) : Nat → r_S → Int32 → Int32 → Int32 → Option r_S
  | 0, _, _, _, _ => none
  | n + 1, σ, x1, x2, x3 =>
    if x1 ≤ x3 then
      (t_ai 106 (r_A σ 20) (((76 : Int32) + x1))).bind fun v15 =>
      (t_si 106 σ 20 ((x2 + (2 : Int32))) v15).bind fun σ16 =>
      (t_si 106 σ16 20 ((x2 + (3 : Int32))) ((1 : Int32))).bind fun σ18 =>
      (t_si 106 σ18 20 ((x2 + (4 : Int32))) ((0 : Int32))).bind fun σ20 =>
      k24 σ20 ((x1 + (1 : Int32)))
    else
      (t_ai 106 (r_A σ 20) ((x2 + (1 : Int32)))).bind fun v22 =>
      (t_ai 106 (r_A σ 20) (((68 : Int32) + x3))).bind fun v24 =>
      (t_ai 106 (r_A σ 20) (((68 : Int32) + x1))).bind fun v26 =>
      if v24 = v26 then
        t_X12_begins_103 k24 (t_X12_begins_63 k24 n) σ x1 x2 x3 ((1 : Int32)) v22 ((x2 + (1 : Int32)))
      else
        t_X12_begins_103 k24 (t_X12_begins_63 k24 n) σ x1 x2 x3 ((0 : Int32)) v22 ((x2 + (1 : Int32)))
set_option maxRecDepth 20000 in
theorem l_X12_begins_63 (b : Nat) (h0 : q_H) {s' : r_S} {k24 : r_S → Int32 → Option r_S} {gk24 : q_H → Nat → Int32 → Option q_H} (hk24 : ∀ (σ : r_S) (x1 : Int32), k24 σ x1 = some s' → gk24 (r_H b σ h0) b x1 = some (r_H b s' h0)) : ∀ (n : Nat) (σ : r_S) (x1 : Int32) (x2 : Int32) (x3 : Int32), t_X12_begins_63 k24 n σ x1 x2 x3 = some s' → m_X12_begins_63 gk24 n (r_H b σ h0) b x1 x2 x3 = some (r_H b s' h0) := by
  intro n
  induction n with
  | zero => intro σ x1 x2 x3 hm; cases hm
  | succ n ih =>
    intro σ x1 x2 x3 hm
    unfold t_X12_begins_63 at hm
    unfold m_X12_begins_63
    refine r_if _ _ hm (fun _ hm => ?_) (fun _ hm => ?_)
    · refine r_gn_20 ?_
      refine r_gn_20 ?_
      refine r_ai_20 hm (fun v15 hm => ?_)
      refine r_as_20 hm (fun σ16 hm => ?_)
      refine r_gn_20 ?_
      refine r_as_20 hm (fun σ18 hm => ?_)
      refine r_gn_20 ?_
      refine r_as_20 hm (fun σ20 hm => ?_)
      exact hk24 _ _ hm
    · refine r_gn_20 ?_
      refine r_ai_20 hm (fun v22 hm => ?_)
      refine r_gn_20 ?_
      refine r_ai_20 hm (fun v24 hm => ?_)
      refine r_gn_20 ?_
      refine r_ai_20 hm (fun v26 hm => ?_)
      refine r_if _ _ hm (fun _ hm => ?_) (fun _ hm => ?_)
      · exact l_X12_begins_103 _ _ hk24 ih _ _ _ _ _ _ _ hm
      · exact l_X12_begins_103 _ _ hk24 ih _ _ _ _ _ _ _ hm
def t_X12_begins_24  : Nat → r_S → Int32 → Option r_S
  | 0, _, _ => none
  | n + 1, σ, x1 =>
    if (8 : Int32) ≤ x1 then
      some σ
    else
      (t_ai 106 (r_A σ 20) (((68 : Int32) + x1))).bind fun v9 =>
      (t_si 106 σ 20 (((12 : Int32) + ((5 : Int32) * x1))) v9).bind fun σ10 =>
      (t_si 106 σ10 20 ((((12 : Int32) + ((5 : Int32) * x1)) + (1 : Int32))) ((0 : Int32))).bind fun σ12 =>
      t_X12_begins_63 (t_X12_begins_24 n) q_fu σ12 x1 (((12 : Int32) + ((5 : Int32) * x1))) ((0 : Int32))
set_option maxRecDepth 20000 in
theorem l_X12_begins_24 (b : Nat) (h0 : q_H) {s' : r_S} : ∀ (n : Nat) (σ : r_S) (x1 : Int32), t_X12_begins_24 n σ x1 = some s' → m_X12_begins_24 n (r_H b σ h0) b x1 = some (r_H b s' h0) := by
  intro n
  induction n with
  | zero => intro σ x1 hm; cases hm
  | succ n ih =>
    intro σ x1 hm
    unfold t_X12_begins_24 at hm
    unfold m_X12_begins_24
    refine r_if _ _ hm (fun _ hm => ?_) (fun _ hm => ?_)
    · exact r_retV hm
    · refine r_gn_20 ?_
      refine r_gn_20 ?_
      refine r_ai_20 hm (fun v9 hm => ?_)
      refine r_as_20 hm (fun σ10 hm => ?_)
      refine r_gn_20 ?_
      refine r_as_20 hm (fun σ12 hm => ?_)
      exact l_X12_begins_63 _ _ ih _ _ _ _ _ hm
def t_X12_begins (σ : r_S) : Option r_S :=
  (t_si 106 σ 20 ((10 : Int32)) ((0 : Int32))).bind fun σ2 =>
  (t_ai 106 (r_A σ2 20) ((84 : Int32))).bind fun v5 =>
  (t_si 106 σ2 20 ((11 : Int32)) v5).bind fun σ6 =>
  t_X12_begins_24 q_fu σ6 ((0 : Int32))
set_option maxRecDepth 20000 in
theorem l_X12_begins (b : Nat) (h0 : q_H) (σ : r_S)  {s' : r_S} (hm : t_X12_begins σ = some s') : m_X12_begins (r_H b σ h0) b = some (r_H b s' h0) := by
  unfold t_X12_begins at hm
  unfold m_X12_begins
  refine r_gn_20 ?_
  refine r_as_20 hm (fun σ2 hm => ?_)
  refine r_gn_20 ?_
  refine r_gn_20 ?_
  refine r_ai_20 hm (fun v5 hm => ?_)
  refine r_as_20 hm (fun σ6 hm => ?_)
  exact l_X12_begins_24 _ _ _ _ _ hm
def t_X12_rope_71 (k44 : r_S → Int32 → Option (Int32 × r_S)) (σ : r_S) (x1 : Int32) (s0 : Int32) (s1 : Int32) : Option (Int32 × r_S) :=
  (t_si 106 σ 20 s1 s0).bind fun σ16 =>
  k44 σ16 ((x1 + (1 : Int32)))
set_option maxRecDepth 20000 in
theorem l_X12_rope_71 (b : Nat) (h0 : q_H) {r : Int32} {s' : r_S} {k44 : r_S → Int32 → Option (Int32 × r_S)} {gk44 : q_H → Nat → Int32 → Option (Int32 × q_H)} (hk44 : ∀ (σ : r_S) (x1 : Int32), k44 σ x1 = some (r, s') → gk44 (r_H b σ h0) b x1 = some (r, r_H b s' h0)) : ∀ (σ : r_S) (x1 : Int32) (s0 : Int32) (s1 : Int32), t_X12_rope_71 k44 σ x1 s0 s1 = some (r, s') → m_X12_rope_71 gk44 (r_H b σ h0) b x1 s0 s1 (b + 10) = some (r, r_H b s' h0) := by
  intro σ x1 s0 s1 hm
  unfold t_X12_rope_71 at hm
  unfold m_X12_rope_71
  refine r_as_20 hm (fun σ16 hm => ?_)
  exact hk44 _ _ hm
def t_X12_rope_44  : Nat → r_S → Int32 → Option (Int32 × r_S)
  | 0, _, _ => none
  | n + 1, σ, x1 =>
    if (106 : Int32) ≤ x1 then
      (t_X12_begins σ).bind fun σ9 =>
      let σ10 := r_si σ9 26 (0 : Int32)
      (t_ai 106 (r_A σ10 20) ((3 : Int32))).bind fun v12 =>
      some (v12, σ10)
    else
      if (85 : Int32) ≤ x1 then
        t_X12_rope_71 (t_X12_rope_44 n) σ x1 ((0 : Int32)) x1
      else
        (t_ai 85 (r_A σ 7) x1).bind fun v15 =>
        t_X12_rope_71 (t_X12_rope_44 n) σ x1 v15 x1
set_option maxRecDepth 20000 in
theorem l_X12_rope_44 (b : Nat) (h0 : q_H) {r : Int32} {s' : r_S} : ∀ (n : Nat) (σ : r_S) (x1 : Int32), t_X12_rope_44 n σ x1 = some (r, s') → m_X12_rope_44 n (r_H b σ h0) b x1 = some (r, r_H b s' h0) := by
  intro n
  induction n with
  | zero => intro σ x1 hm; cases hm
  | succ n ih =>
    intro σ x1 hm
    unfold t_X12_rope_44 at hm
    unfold m_X12_rope_44
    refine r_if _ _ hm (fun _ hm => ?_) (fun _ hm => ?_)
    · refine r_cV (fun s9 e9 => l_X12_begins _ _ _  e9) hm (fun σ9 hm => ?_)
      refine r_pi_26 ?_
      refine r_gn_20 ?_
      refine r_ai_20 hm (fun v12 hm => ?_)
      exact r_retS hm
    · refine r_gn_20 ?_
      refine r_if _ _ hm (fun _ hm => ?_) (fun _ hm => ?_)
      · exact l_X12_rope_71 _ _ ih _ _ _ _ hm
      · refine r_gn_7 ?_
        refine r_ai_7 hm (fun v15 hm => ?_)
        exact l_X12_rope_71 _ _ ih _ _ _ _ hm
def t_X12_rope_8  : Nat → r_S → Int32 → Option (Int32 × r_S)
  | 0, _, _ => none
  | n + 1, σ, x1 =>
    if (85 : Int32) ≤ x1 then
      (t_X12_readsAll σ).bind fun (r2, σ3) =>
      if r2 = 0 then
        let v5 := r_I σ3 9
        some (((-2 : Int32) - v5), σ3)
      else
        t_X12_rope_44 q_fu σ3 ((0 : Int32))
    else
      (t_si 85 σ 7 x1 ((0 : Int32))).bind fun σ7 =>
      t_X12_rope_8 n σ7 ((x1 + (1 : Int32)))
set_option maxRecDepth 20000 in
theorem l_X12_rope_8 (b : Nat) (h0 : q_H) {r : Int32} {s' : r_S} : ∀ (n : Nat) (σ : r_S) (x1 : Int32), t_X12_rope_8 n σ x1 = some (r, s') → m_X12_rope_8 n (r_H b σ h0) b x1 = some (r, r_H b s' h0) := by
  intro n
  induction n with
  | zero => intro σ x1 hm; cases hm
  | succ n ih =>
    intro σ x1 hm
    unfold t_X12_rope_8 at hm
    unfold m_X12_rope_8
    refine r_if _ _ hm (fun _ hm => ?_) (fun _ hm => ?_)
    · refine r_cS (fun r9 s9 e9 => l_X12_readsAll _ _ _  e9) hm (fun r2 σ3 hm => ?_)
      refine r_if _ _ hm (fun _ hm => ?_) (fun _ hm => ?_)
      · refine r_gi_9 ?_
        exact r_retS hm
      · exact l_X12_rope_44 _ _ _ _ _ hm
    · refine r_gn_7 ?_
      refine r_as_7 hm (fun σ7 hm => ?_)
      exact ih _ _ hm
def t_X12_rope (σ : r_S) : Option (Int32 × r_S) :=
  let σ1 := r_si σ 11 (6 : Int32)
  t_X12_rope_8 q_fu σ1 ((0 : Int32))
set_option maxRecDepth 20000 in
theorem l_X12_rope (b : Nat) (h0 : q_H) (σ : r_S)  {r : Int32} {s' : r_S} (hm : t_X12_rope σ = some (r, s')) : m_X12_rope (r_H b σ h0) b = some (r, r_H b s' h0) := by
  unfold t_X12_rope at hm
  unfold m_X12_rope
  refine r_pi_11 ?_
  exact l_X12_rope_8 _ _ _ _ _ hm
def t_X12_isRule (σ0 : r_S) (a1 : Int32) : Option Int32 :=
  if a1 < 0 then
    some ((0 : Int32))
  else
    let v1 := r_I σ0 2
    if v1 ≤ a1 then
      some ((0 : Int32))
    else
      some ((1 : Int32))
set_option maxRecDepth 20000 in
theorem l_X12_isRule (b : Nat) (h0 : q_H) (σ0 : r_S) (a1 : Int32) {r : Int32} (hm : t_X12_isRule σ0 a1 = some r) : m_X12_isRule (r_H b σ0 h0) b a1 = some r := by
  unfold t_X12_isRule at hm
  unfold m_X12_isRule
  refine r_if _ _ hm (fun _ hm => ?_) (fun _ hm => ?_)
  · exact hm
  · refine r_gi_2 ?_
    refine r_if _ _ hm (fun _ hm => ?_) (fun _ hm => ?_)
    · exact hm
    · exact hm
def t_X12_push (σ : r_S) (a1 : Int64) : Option r_S :=
  let v2 := r_I σ 18
  (t_sl 64 σ 17 v2 a1).bind fun σ3 =>
  let v4 := r_I σ3 18
  let σ5 := r_si σ3 18 (v4 + (1 : Int32))
  some σ5
set_option maxRecDepth 20000 in
theorem l_X12_push (b : Nat) (h0 : q_H) (σ : r_S) (a1 : Int64) {s' : r_S} (hm : t_X12_push σ a1 = some s') : m_X12_push (r_H b σ h0) b a1 = some (r_H b s' h0) := by
  unfold t_X12_push at hm
  unfold m_X12_push
  refine r_gn_17 ?_
  refine r_gi_18 ?_
  refine r_as_17 hm (fun σ3 hm => ?_)
  refine r_gi_18 ?_
  refine r_pi_18 ?_
  exact r_retV hm
def t_X12_pop (σ : r_S) : Option (Int64 × r_S) :=
  let v1 := r_I σ 18
  let σ2 := r_si σ 18 (v1 - (1 : Int32))
  let v4 := r_I σ2 18
  (t_al 64 (r_L σ2 17) v4).bind fun v5 =>
  some (v5, σ2)
set_option maxRecDepth 20000 in
theorem l_X12_pop (b : Nat) (h0 : q_H) (σ : r_S)  {r : Int64} {s' : r_S} (hm : t_X12_pop σ = some (r, s')) : m_X12_pop (r_H b σ h0) b = some (r, r_H b s' h0) := by
  unfold t_X12_pop at hm
  unfold m_X12_pop
  refine r_gi_18 ?_
  refine r_pi_18 ?_
  refine r_gn_17 ?_
  refine r_gi_18 ?_
  refine r_ai_17 hm (fun v5 hm => ?_)
  exact r_retS hm
def t_X12_reckons_129 (k8 : r_S → Int32 → Int32 → Int32 → Option (Int64 × r_S)) (σ : r_S) (x1 : Int32) (x3 : Int32) (x4 : Int32) : Option (Int64 × r_S) :=
  k8 σ x1 x3 ((x4 + (1 : Int32)))
set_option maxRecDepth 20000 in
theorem l_X12_reckons_129 (b : Nat) (h0 : q_H) {r : Int64} {s' : r_S} {k8 : r_S → Int32 → Int32 → Int32 → Option (Int64 × r_S)} {gk8 : q_H → Nat → Int32 → Int32 → Int32 → Option (Int64 × q_H)} (hk8 : ∀ (σ : r_S) (x1 : Int32) (x3 : Int32) (x4 : Int32), k8 σ x1 x3 x4 = some (r, s') → gk8 (r_H b σ h0) b x1 x3 x4 = some (r, r_H b s' h0)) : ∀ (σ : r_S) (x1 : Int32) (x3 : Int32) (x4 : Int32), t_X12_reckons_129 k8 σ x1 x3 x4 = some (r, s') → m_X12_reckons_129 gk8 (r_H b σ h0) b x1 x3 x4 = some (r, r_H b s' h0) := by
  intro σ x1 x3 x4 hm
  unfold t_X12_reckons_129 at hm
  unfold m_X12_reckons_129
  exact hk8 _ _ _ _ hm
def t_X12_reckons_8  : Nat → r_S → Int32 → Int32 → Int32 → Option (Int64 × r_S)
  | 0, _, _, _, _ => none
  | n + 1, σ, x1, x3, x4 =>
    if x3 ≤ x4 then
      (t_X12_pop σ).bind fun (r2, σ3) =>
      some (r2, σ3)
    else
      (t_ai 2400 (r_A σ 3) ((((400 : Int32) * x1) + x4))).bind fun v5 =>
      (t_ai 2400 (r_A σ 3) ((((400 : Int32) * x1) + x4))).bind fun v7 =>
      if (v5 &&& (15 : Int32)) = 0 then
        (t_X12_push σ (((v7 >>> ((4 : Int32) &&& 31))).toInt64)).bind fun σ24 =>
        t_X12_reckons_129 (t_X12_reckons_8 n) σ24 x1 x3 x4
      else
        if (v5 &&& (15 : Int32)) = (1 : Int32) then
          (t_al 11 (r_L σ 19) ((v7 >>> ((4 : Int32) &&& 31)))).bind fun v20 =>
          (t_X12_push σ v20).bind fun σ22 =>
          t_X12_reckons_129 (t_X12_reckons_8 n) σ22 x1 x3 x4
        else
          if (v5 &&& (15 : Int32)) = (11 : Int32) then
            (t_X12_pop σ).bind fun (r15, σ16) =>
            (t_X12_push σ16 (((1 : Int64) - r15))).bind fun σ18 =>
            t_X12_reckons_129 (t_X12_reckons_8 n) σ18 x1 x3 x4
          else
            (t_X12_pop σ).bind fun (r8, σ9) =>
            (t_X12_pop σ9).bind fun (r10, σ11) =>
            (m_X12_one ((v5 &&& (15 : Int32))) r10 r8).bind fun r12 =>
            (t_X12_push σ11 r12).bind fun σ14 =>
            t_X12_reckons_129 (t_X12_reckons_8 n) σ14 x1 x3 x4
set_option maxRecDepth 20000 in
theorem l_X12_reckons_8 (b : Nat) (h0 : q_H) {r : Int64} {s' : r_S} : ∀ (n : Nat) (σ : r_S) (x1 : Int32) (x3 : Int32) (x4 : Int32), t_X12_reckons_8 n σ x1 x3 x4 = some (r, s') → m_X12_reckons_8 n (r_H b σ h0) b x1 x3 x4 = some (r, r_H b s' h0) := by
  intro n
  induction n with
  | zero => intro σ x1 x3 x4 hm; cases hm
  | succ n ih =>
    intro σ x1 x3 x4 hm
    unfold t_X12_reckons_8 at hm
    unfold m_X12_reckons_8
    refine r_if _ _ hm (fun _ hm => ?_) (fun _ hm => ?_)
    · refine r_cS (fun r9 s9 e9 => l_X12_pop _ _ _  e9) hm (fun r2 σ3 hm => ?_)
      exact r_retS hm
    · refine r_gn_3 ?_
      refine r_ai_3 hm (fun v5 hm => ?_)
      refine r_gn_3 ?_
      refine r_ai_3 hm (fun v7 hm => ?_)
      refine r_if _ _ hm (fun _ hm => ?_) (fun _ hm => ?_)
      · refine r_cV (fun s9 e9 => l_X12_push _ _ _ _ e9) hm (fun σ24 hm => ?_)
        exact l_X12_reckons_129 _ _ ih _ _ _ _ hm
      · refine r_if _ _ hm (fun _ hm => ?_) (fun _ hm => ?_)
        · refine r_gn_19 ?_
          refine r_ai_19 hm (fun v20 hm => ?_)
          refine r_cV (fun s9 e9 => l_X12_push _ _ _ _ e9) hm (fun σ22 hm => ?_)
          exact l_X12_reckons_129 _ _ ih _ _ _ _ hm
        · refine r_if _ _ hm (fun _ hm => ?_) (fun _ hm => ?_)
          · refine r_cS (fun r9 s9 e9 => l_X12_pop _ _ _  e9) hm (fun r15 σ16 hm => ?_)
            refine r_cV (fun s9 e9 => l_X12_push _ _ _ _ e9) hm (fun σ18 hm => ?_)
            exact l_X12_reckons_129 _ _ ih _ _ _ _ hm
          · refine r_cS (fun r9 s9 e9 => l_X12_pop _ _ _  e9) hm (fun r8 σ9 hm => ?_)
            refine r_cS (fun r9 s9 e9 => l_X12_pop _ _ _  e9) hm (fun r10 σ11 hm => ?_)
            refine r_bd hm (fun r12 hm => ?_)
            refine r_cV (fun s9 e9 => l_X12_push _ _ _ _ e9) hm (fun σ14 hm => ?_)
            exact l_X12_reckons_129 _ _ ih _ _ _ _ hm
def t_X12_reckons (σ : r_S) (a1 : Int32) (a2 : Int32) (a3 : Int32) : Option (Int64 × r_S) :=
  let σ1 := r_si σ 18 (0 : Int32)
  t_X12_reckons_8 q_fu σ1 a1 a3 a2
set_option maxRecDepth 20000 in
theorem l_X12_reckons (b : Nat) (h0 : q_H) (σ : r_S) (a1 : Int32) (a2 : Int32) (a3 : Int32) {r : Int64} {s' : r_S} (hm : t_X12_reckons σ a1 a2 a3 = some (r, s')) : m_X12_reckons (r_H b σ h0) b a1 a2 a3 = some (r, r_H b s' h0) := by
  unfold t_X12_reckons at hm
  unfold m_X12_reckons
  refine r_pi_18 ?_
  exact l_X12_reckons_8 _ _ _ _ _ _ _ hm
def t_X12_isRope (σ0 : r_S) : Option Int32 :=
  (t_ai 106 (r_A σ0 20) ((0 : Int32))).bind fun v2 =>
  if v2 = (1 : Int32) then
    some ((1 : Int32))
  else
    some ((0 : Int32))
set_option maxRecDepth 20000 in
theorem l_X12_isRope (b : Nat) (h0 : q_H) (σ0 : r_S)  {r : Int32} (hm : t_X12_isRope σ0 = some r) : m_X12_isRope (r_H b σ0 h0) b = some r := by
  unfold t_X12_isRope at hm
  unfold m_X12_isRope
  refine r_gn_20 ?_
  refine r_ai_20 hm (fun v2 hm => ?_)
  refine r_if _ _ hm (fun _ hm => ?_) (fun _ hm => ?_)
  · exact hm
  · exact hm
def t_X12_isPuller (σ0 : r_S) (a1 : Int32) : Option Int32 :=
  if a1 < 0 then
    some ((0 : Int32))
  else
    (t_ai 106 (r_A σ0 20) ((3 : Int32))).bind fun v2 =>
    if v2 ≤ a1 then
      some ((0 : Int32))
    else
      some ((1 : Int32))
set_option maxRecDepth 20000 in
theorem l_X12_isPuller (b : Nat) (h0 : q_H) (σ0 : r_S) (a1 : Int32) {r : Int32} (hm : t_X12_isPuller σ0 a1 = some r) : m_X12_isPuller (r_H b σ0 h0) b a1 = some r := by
  unfold t_X12_isPuller at hm
  unfold m_X12_isPuller
  refine r_if _ _ hm (fun _ hm => ?_) (fun _ hm => ?_)
  · exact hm
  · refine r_gn_20 ?_
    refine r_ai_20 hm (fun v2 hm => ?_)
    refine r_if _ _ hm (fun _ hm => ?_) (fun _ hm => ?_)
    · exact hm
    · exact hm
def t_X12_sideOf (σ0 : r_S) (a1 : Int32) : Option Int32 :=
  (t_ai 106 (r_A σ0 20) (((12 : Int32) + ((5 : Int32) * a1)))).bind fun v2 =>
  some v2
set_option maxRecDepth 20000 in
theorem l_X12_sideOf (b : Nat) (h0 : q_H) (σ0 : r_S) (a1 : Int32) {r : Int32} (hm : t_X12_sideOf σ0 a1 = some r) : m_X12_sideOf (r_H b σ0 h0) b a1 = some r := by
  unfold t_X12_sideOf at hm
  unfold m_X12_sideOf
  refine r_gn_20 ?_
  refine r_ai_20 hm (fun v2 hm => ?_)
  exact hm
def t_X12_placeOf (σ0 : r_S) (a1 : Int32) : Option Int32 :=
  (t_ai 106 (r_A σ0 20) ((((12 : Int32) + ((5 : Int32) * a1)) + (1 : Int32)))).bind fun v2 =>
  some v2
set_option maxRecDepth 20000 in
theorem l_X12_placeOf (b : Nat) (h0 : q_H) (σ0 : r_S) (a1 : Int32) {r : Int32} (hm : t_X12_placeOf σ0 a1 = some r) : m_X12_placeOf (r_H b σ0 h0) b a1 = some r := by
  unfold t_X12_placeOf at hm
  unfold m_X12_placeOf
  refine r_gn_20 ?_
  refine r_ai_20 hm (fun v2 hm => ?_)
  exact hm
def t_X12_windOf (σ0 : r_S) (a1 : Int32) : Option Int32 :=
  (t_ai 106 (r_A σ0 20) ((((12 : Int32) + ((5 : Int32) * a1)) + (2 : Int32)))).bind fun v2 =>
  some v2
set_option maxRecDepth 20000 in
theorem l_X12_windOf (b : Nat) (h0 : q_H) (σ0 : r_S) (a1 : Int32) {r : Int32} (hm : t_X12_windOf σ0 a1 = some r) : m_X12_windOf (r_H b σ0 h0) b a1 = some r := by
  unfold t_X12_windOf at hm
  unfold m_X12_windOf
  refine r_gn_20 ?_
  refine r_ai_20 hm (fun v2 hm => ?_)
  exact hm
def t_X12_isUp (σ0 : r_S) (a1 : Int32) : Option Int32 :=
  (t_X12_isPuller σ0 a1).bind fun r1 =>
  if r1 = 0 then
    some ((0 : Int32))
  else
    (t_ai 106 (r_A σ0 20) ((((12 : Int32) + ((5 : Int32) * a1)) + (3 : Int32)))).bind fun v4 =>
    if v4 = (1 : Int32) then
      some ((1 : Int32))
    else
      some ((0 : Int32))
set_option maxRecDepth 20000 in
theorem l_X12_isUp (b : Nat) (h0 : q_H) (σ0 : r_S) (a1 : Int32) {r : Int32} (hm : t_X12_isUp σ0 a1 = some r) : m_X12_isUp (r_H b σ0 h0) b a1 = some r := by
  unfold t_X12_isUp at hm
  unfold m_X12_isUp
  refine r_cP (fun r9 e9 => l_X12_isPuller _ _ _ _ e9) hm (fun r1 hm => ?_)
  refine r_if _ _ hm (fun _ hm => ?_) (fun _ hm => ?_)
  · exact hm
  · refine r_gn_20 ?_
    refine r_ai_20 hm (fun v4 hm => ?_)
    refine r_if _ _ hm (fun _ hm => ?_) (fun _ hm => ?_)
    · exact hm
    · exact hm
def t_X12_workOf (σ0 : r_S) (a1 : Int32) : Option Int32 :=
  (t_ai 106 (r_A σ0 20) ((((12 : Int32) + ((5 : Int32) * a1)) + (4 : Int32)))).bind fun v2 =>
  some v2
set_option maxRecDepth 20000 in
theorem l_X12_workOf (b : Nat) (h0 : q_H) (σ0 : r_S) (a1 : Int32) {r : Int32} (hm : t_X12_workOf σ0 a1 = some r) : m_X12_workOf (r_H b σ0 h0) b a1 = some r := by
  unfold t_X12_workOf at hm
  unfold m_X12_workOf
  refine r_gn_20 ?_
  refine r_ai_20 hm (fun v2 hm => ?_)
  exact hm
def t_X12_upOnes_30 (k4 : r_S → Int32 → Int32 → Option Int32) (σ0 : r_S) (x2 : Int32) (s0 : Int32) (s1 : Int32) : Option Int32 :=
  k4 σ0 ((s1 ||| s0)) ((x2 + (1 : Int32)))
set_option maxRecDepth 20000 in
theorem l_X12_upOnes_30 (b : Nat) (h0 : q_H) {r : Int32} {k4 : r_S → Int32 → Int32 → Option Int32} {gk4 : q_H → Nat → Int32 → Int32 → Option Int32} (hk4 : ∀ (σ0 : r_S) (x1 : Int32) (x2 : Int32), k4 σ0 x1 x2 = some r → gk4 (r_H b σ0 h0) b x1 x2 = some r) : ∀ (σ0 : r_S) (x2 : Int32) (s0 : Int32) (s1 : Int32), t_X12_upOnes_30 k4 σ0 x2 s0 s1 = some r → m_X12_upOnes_30 gk4 (r_H b σ0 h0) b x2 s0 s1 = some r := by
  intro σ0 x2 s0 s1 hm
  unfold t_X12_upOnes_30 at hm
  unfold m_X12_upOnes_30
  exact hk4 _ _ _ hm
def t_X12_upOnes_4  : Nat → r_S → Int32 → Int32 → Option Int32
  | 0, _, _, _ => none
  | n + 1, σ0, x1, x2 =>
    (t_ai 106 (r_A σ0 20) ((3 : Int32))).bind fun v2 =>
    if v2 ≤ x2 then
      some x1
    else
      (t_X12_isUp σ0 x2).bind fun r3 =>
      if r3 = 0 then
        t_X12_upOnes_30 (t_X12_upOnes_4 n) σ0 x2 ((0 : Int32)) x1
      else
        t_X12_upOnes_30 (t_X12_upOnes_4 n) σ0 x2 (((1 : Int32) <<< (x2 &&& 31))) x1
set_option maxRecDepth 20000 in
theorem l_X12_upOnes_4 (b : Nat) (h0 : q_H) {r : Int32} : ∀ (n : Nat) (σ0 : r_S) (x1 : Int32) (x2 : Int32), t_X12_upOnes_4 n σ0 x1 x2 = some r → m_X12_upOnes_4 n (r_H b σ0 h0) b x1 x2 = some r := by
  intro n
  induction n with
  | zero => intro σ0 x1 x2 hm; cases hm
  | succ n ih =>
    intro σ0 x1 x2 hm
    unfold t_X12_upOnes_4 at hm
    unfold m_X12_upOnes_4
    refine r_gn_20 ?_
    refine r_ai_20 hm (fun v2 hm => ?_)
    refine r_if _ _ hm (fun _ hm => ?_) (fun _ hm => ?_)
    · exact hm
    · refine r_cP (fun r9 e9 => l_X12_isUp _ _ _ _ e9) hm (fun r3 hm => ?_)
      refine r_if _ _ hm (fun _ hm => ?_) (fun _ hm => ?_)
      · exact l_X12_upOnes_30 _ _ ih _ _ _ _ hm
      · exact l_X12_upOnes_30 _ _ ih _ _ _ _ hm
def t_X12_upOnes (σ0 : r_S) : Option Int32 :=
  t_X12_upOnes_4 q_fu σ0 ((0 : Int32)) ((0 : Int32))
set_option maxRecDepth 20000 in
theorem l_X12_upOnes (b : Nat) (h0 : q_H) (σ0 : r_S)  {r : Int32} (hm : t_X12_upOnes σ0 = some r) : m_X12_upOnes (r_H b σ0 h0) b = some r := by
  unfold t_X12_upOnes at hm
  unfold m_X12_upOnes
  exact l_X12_upOnes_4 _ _ _ _ _ _ hm
def t_X12_onesOn_31 (k4 : r_S → Int32 → Int32 → Int32 → Option Int32) (σ0 : r_S) (x1 : Int32) (x3 : Int32) (s0 : Int32) (s1 : Int32) : Option Int32 :=
  k4 σ0 x1 ((s1 ||| s0)) ((x3 + (1 : Int32)))
set_option maxRecDepth 20000 in
theorem l_X12_onesOn_31 (b : Nat) (h0 : q_H) {r : Int32} {k4 : r_S → Int32 → Int32 → Int32 → Option Int32} {gk4 : q_H → Nat → Int32 → Int32 → Int32 → Option Int32} (hk4 : ∀ (σ0 : r_S) (x1 : Int32) (x2 : Int32) (x3 : Int32), k4 σ0 x1 x2 x3 = some r → gk4 (r_H b σ0 h0) b x1 x2 x3 = some r) : ∀ (σ0 : r_S) (x1 : Int32) (x3 : Int32) (s0 : Int32) (s1 : Int32), t_X12_onesOn_31 k4 σ0 x1 x3 s0 s1 = some r → m_X12_onesOn_31 gk4 (r_H b σ0 h0) b x1 x3 s0 s1 = some r := by
  intro σ0 x1 x3 s0 s1 hm
  unfold t_X12_onesOn_31 at hm
  unfold m_X12_onesOn_31
  exact hk4 _ _ _ _ hm
def t_X12_onesOn_4  : Nat → r_S → Int32 → Int32 → Int32 → Option Int32
  | 0, _, _, _, _ => none
  | n + 1, σ0, x1, x2, x3 =>
    (t_ai 106 (r_A σ0 20) ((3 : Int32))).bind fun v2 =>
    if v2 ≤ x3 then
      some x2
    else
      (t_X12_sideOf σ0 x3).bind fun r3 =>
      if r3 = x1 then
        t_X12_onesOn_31 (t_X12_onesOn_4 n) σ0 x1 x3 (((1 : Int32) <<< (x3 &&& 31))) x2
      else
        t_X12_onesOn_31 (t_X12_onesOn_4 n) σ0 x1 x3 ((0 : Int32)) x2
set_option maxRecDepth 20000 in
theorem l_X12_onesOn_4 (b : Nat) (h0 : q_H) {r : Int32} : ∀ (n : Nat) (σ0 : r_S) (x1 : Int32) (x2 : Int32) (x3 : Int32), t_X12_onesOn_4 n σ0 x1 x2 x3 = some r → m_X12_onesOn_4 n (r_H b σ0 h0) b x1 x2 x3 = some r := by
  intro n
  induction n with
  | zero => intro σ0 x1 x2 x3 hm; cases hm
  | succ n ih =>
    intro σ0 x1 x2 x3 hm
    unfold t_X12_onesOn_4 at hm
    unfold m_X12_onesOn_4
    refine r_gn_20 ?_
    refine r_ai_20 hm (fun v2 hm => ?_)
    refine r_if _ _ hm (fun _ hm => ?_) (fun _ hm => ?_)
    · exact hm
    · refine r_cP (fun r9 e9 => l_X12_sideOf _ _ _ _ e9) hm (fun r3 hm => ?_)
      refine r_if _ _ hm (fun _ hm => ?_) (fun _ hm => ?_)
      · exact l_X12_onesOn_31 _ _ ih _ _ _ _ _ hm
      · exact l_X12_onesOn_31 _ _ ih _ _ _ _ _ hm
def t_X12_onesOn (σ0 : r_S) (a1 : Int32) : Option Int32 :=
  t_X12_onesOn_4 q_fu σ0 a1 ((0 : Int32)) ((0 : Int32))
set_option maxRecDepth 20000 in
theorem l_X12_onesOn (b : Nat) (h0 : q_H) (σ0 : r_S) (a1 : Int32) {r : Int32} (hm : t_X12_onesOn σ0 a1 = some r) : m_X12_onesOn (r_H b σ0 h0) b a1 = some r := by
  unfold t_X12_onesOn at hm
  unfold m_X12_onesOn
  exact l_X12_onesOn_4 _ _ _ _ _ _ _ hm
def t_X12_workAll_4  : Nat → r_S → Int32 → Int32 → Option Int32
  | 0, _, _, _ => none
  | n + 1, σ0, x1, x2 =>
    (t_ai 106 (r_A σ0 20) ((3 : Int32))).bind fun v2 =>
    if v2 ≤ x2 then
      some x1
    else
      (t_X12_workOf σ0 x2).bind fun r3 =>
      t_X12_workAll_4 n σ0 ((x1 + r3)) ((x2 + (1 : Int32)))
set_option maxRecDepth 20000 in
theorem l_X12_workAll_4 (b : Nat) (h0 : q_H) {r : Int32} : ∀ (n : Nat) (σ0 : r_S) (x1 : Int32) (x2 : Int32), t_X12_workAll_4 n σ0 x1 x2 = some r → m_X12_workAll_4 n (r_H b σ0 h0) b x1 x2 = some r := by
  intro n
  induction n with
  | zero => intro σ0 x1 x2 hm; cases hm
  | succ n ih =>
    intro σ0 x1 x2 hm
    unfold t_X12_workAll_4 at hm
    unfold m_X12_workAll_4
    refine r_gn_20 ?_
    refine r_ai_20 hm (fun v2 hm => ?_)
    refine r_if _ _ hm (fun _ hm => ?_) (fun _ hm => ?_)
    · exact hm
    · refine r_cP (fun r9 e9 => l_X12_workOf _ _ _ _ e9) hm (fun r3 hm => ?_)
      exact ih _ _ _ hm
def t_X12_workAll (σ0 : r_S) : Option Int32 :=
  t_X12_workAll_4 q_fu σ0 ((0 : Int32)) ((0 : Int32))
set_option maxRecDepth 20000 in
theorem l_X12_workAll (b : Nat) (h0 : q_H) (σ0 : r_S)  {r : Int32} (hm : t_X12_workAll σ0 = some r) : m_X12_workAll (r_H b σ0 h0) b = some r := by
  unfold t_X12_workAll at hm
  unfold m_X12_workAll
  exact l_X12_workAll_4 _ _ _ _ _ _ hm
def t_X12_isOver (σ0 : r_S) : Option Int32 :=
  (t_ai 106 (r_A σ0 20) ((11 : Int32))).bind fun v2 =>
  (t_ai 106 (r_A σ0 20) ((1 : Int32))).bind fun v4 =>
  if v4 ≤ v2 then
    some ((1 : Int32))
  else
    (t_ai 106 (r_A σ0 20) ((11 : Int32))).bind fun v6 =>
    (t_ai 106 (r_A σ0 20) ((1 : Int32))).bind fun v8 =>
    if (0 - v8) < v6 then
      some ((0 : Int32))
    else
      some ((1 : Int32))
set_option maxRecDepth 20000 in
theorem l_X12_isOver (b : Nat) (h0 : q_H) (σ0 : r_S)  {r : Int32} (hm : t_X12_isOver σ0 = some r) : m_X12_isOver (r_H b σ0 h0) b = some r := by
  unfold t_X12_isOver at hm
  unfold m_X12_isOver
  refine r_gn_20 ?_
  refine r_ai_20 hm (fun v2 hm => ?_)
  refine r_gn_20 ?_
  refine r_ai_20 hm (fun v4 hm => ?_)
  refine r_if _ _ hm (fun _ hm => ?_) (fun _ hm => ?_)
  · exact hm
  · refine r_gn_20 ?_
    refine r_ai_20 hm (fun v6 hm => ?_)
    refine r_gn_20 ?_
    refine r_ai_20 hm (fun v8 hm => ?_)
    refine r_if _ _ hm (fun _ hm => ?_) (fun _ hm => ?_)
    · exact hm
    · exact hm
def t_X12_towards (σ0 : r_S) (a1 : Int32) : Option Int32 :=
  (t_X12_sideOf σ0 a1).bind fun r1 =>
  if r1 = (1 : Int32) then
    (t_ai 106 (r_A σ0 20) ((11 : Int32))).bind fun v6 =>
    some v6
  else
    (t_ai 106 (r_A σ0 20) ((11 : Int32))).bind fun v4 =>
    some ((0 - v4))
set_option maxRecDepth 20000 in
theorem l_X12_towards (b : Nat) (h0 : q_H) (σ0 : r_S) (a1 : Int32) {r : Int32} (hm : t_X12_towards σ0 a1 = some r) : m_X12_towards (r_H b σ0 h0) b a1 = some r := by
  unfold t_X12_towards at hm
  unfold m_X12_towards
  refine r_cP (fun r9 e9 => l_X12_sideOf _ _ _ _ e9) hm (fun r1 hm => ?_)
  refine r_if _ _ hm (fun _ hm => ?_) (fun _ hm => ?_)
  · refine r_gn_20 ?_
    refine r_ai_20 hm (fun v6 hm => ?_)
    exact hm
  · refine r_gn_20 ?_
    refine r_ai_20 hm (fun v4 hm => ?_)
    exact hm
def t_X12_force_16 (σ : r_S) (x1 : Int32) : Option (Int32 × r_S) :=
  let v3 := r_I σ 21
  let σ4 := r_si σ 21 (x1)
  some (v3, σ4)
set_option maxRecDepth 20000 in
theorem l_X12_force_16 (b : Nat) (h0 : q_H) {r : Int32} {s' : r_S} : ∀ (σ : r_S) (x1 : Int32), t_X12_force_16 σ x1 = some (r, s') → m_X12_force_16 (r_H b σ h0) b x1 = some (r, r_H b s' h0) := by
  intro σ x1 hm
  unfold t_X12_force_16 at hm
  unfold m_X12_force_16
  refine r_gi_21 ?_
  refine r_pi_21 ?_
  exact r_retS hm
def t_X12_force (σ : r_S) (a1 : Int32) : Option (Int32 × r_S) :=
  if a1 = (-1 : Int32) then
    t_X12_force_16 σ a1
  else
    (t_X12_isRule σ a1).bind fun r1 =>
    if r1 = 0 then
      some ((-2 : Int32), σ)
    else
      t_X12_force_16 σ a1
set_option maxRecDepth 20000 in
theorem l_X12_force (b : Nat) (h0 : q_H) (σ : r_S) (a1 : Int32) {r : Int32} {s' : r_S} (hm : t_X12_force σ a1 = some (r, s')) : m_X12_force (r_H b σ h0) b a1 = some (r, r_H b s' h0) := by
  unfold t_X12_force at hm
  unfold m_X12_force
  refine r_if _ _ hm (fun _ hm => ?_) (fun _ hm => ?_)
  · exact l_X12_force_16 _ _ _ _ hm
  · refine r_cP (fun r9 e9 => l_X12_isRule _ _ _ _ e9) hm (fun r1 hm => ?_)
    refine r_if _ _ hm (fun _ hm => ?_) (fun _ hm => ?_)
    · exact r_retS hm
    · exact l_X12_force_16 _ _ _ _ hm
def t_X12_puller (σ0 : r_S) (a1 : Int32) (a2 : Int32) : Option Int32 :=
  (t_X12_isPuller σ0 a1).bind fun r1 =>
  if r1 = 0 then
    some ((-1 : Int32))
  else
    if a2 = 0 then
      (t_X12_sideOf σ0 a1).bind fun r3 =>
      some r3
    else
      if a2 = 1 then
        (t_ai 106 (r_A σ0 20) (((52 : Int32) + a1))).bind fun v6 =>
        some v6
      else
        if a2 = 2 then
          (t_X12_windOf σ0 a1).bind fun r7 =>
          some r7
        else
          if a2 = 3 then
            (t_ai 106 (r_A σ0 20) (((60 : Int32) + a1))).bind fun v10 =>
            some v10
          else
            if a2 = 4 then
              (t_X12_placeOf σ0 a1).bind fun r11 =>
              some r11
            else
              if a2 = 5 then
                (t_X12_isUp σ0 a1).bind fun r13 =>
                if r13 = 0 then
                  some ((0 : Int32))
                else
                  some ((1 : Int32))
              else
                if a2 = 6 then
                  (t_X12_workOf σ0 a1).bind fun r15 =>
                  some r15
                else
                  some ((-1 : Int32))
set_option maxRecDepth 20000 in
theorem l_X12_puller (b : Nat) (h0 : q_H) (σ0 : r_S) (a1 : Int32) (a2 : Int32) {r : Int32} (hm : t_X12_puller σ0 a1 a2 = some r) : m_X12_puller (r_H b σ0 h0) b a1 a2 = some r := by
  unfold t_X12_puller at hm
  unfold m_X12_puller
  refine r_cP (fun r9 e9 => l_X12_isPuller _ _ _ _ e9) hm (fun r1 hm => ?_)
  refine r_if _ _ hm (fun _ hm => ?_) (fun _ hm => ?_)
  · exact hm
  · refine r_if _ _ hm (fun _ hm => ?_) (fun _ hm => ?_)
    · refine r_cP (fun r9 e9 => l_X12_sideOf _ _ _ _ e9) hm (fun r3 hm => ?_)
      exact hm
    · refine r_if _ _ hm (fun _ hm => ?_) (fun _ hm => ?_)
      · refine r_gn_20 ?_
        refine r_ai_20 hm (fun v6 hm => ?_)
        exact hm
      · refine r_if _ _ hm (fun _ hm => ?_) (fun _ hm => ?_)
        · refine r_cP (fun r9 e9 => l_X12_windOf _ _ _ _ e9) hm (fun r7 hm => ?_)
          exact hm
        · refine r_if _ _ hm (fun _ hm => ?_) (fun _ hm => ?_)
          · refine r_gn_20 ?_
            refine r_ai_20 hm (fun v10 hm => ?_)
            exact hm
          · refine r_if _ _ hm (fun _ hm => ?_) (fun _ hm => ?_)
            · refine r_cP (fun r9 e9 => l_X12_placeOf _ _ _ _ e9) hm (fun r11 hm => ?_)
              exact hm
            · refine r_if _ _ hm (fun _ hm => ?_) (fun _ hm => ?_)
              · refine r_cP (fun r9 e9 => l_X12_isUp _ _ _ _ e9) hm (fun r13 hm => ?_)
                refine r_if _ _ hm (fun _ hm => ?_) (fun _ hm => ?_)
                · exact hm
                · exact hm
              · refine r_if _ _ hm (fun _ hm => ?_) (fun _ hm => ?_)
                · refine r_cP (fun r9 e9 => l_X12_workOf _ _ _ _ e9) hm (fun r15 hm => ?_)
                  exact hm
                · exact hm
def t_X12_ribbon (σ0 : r_S) : Option Int32 :=
  (t_X12_isRope σ0).bind fun r1 =>
  if r1 = 0 then
    some ((-1 : Int32))
  else
    (t_ai 106 (r_A σ0 20) ((11 : Int32))).bind fun v4 =>
    some ((v4 + (100 : Int32)))
set_option maxRecDepth 20000 in
theorem l_X12_ribbon (b : Nat) (h0 : q_H) (σ0 : r_S)  {r : Int32} (hm : t_X12_ribbon σ0 = some r) : m_X12_ribbon (r_H b σ0 h0) b = some r := by
  unfold t_X12_ribbon at hm
  unfold m_X12_ribbon
  refine r_cP (fun r9 e9 => l_X12_isRope _ _ _  e9) hm (fun r1 hm => ?_)
  refine r_if _ _ hm (fun _ hm => ?_) (fun _ hm => ?_)
  · exact hm
  · refine r_gn_20 ?_
    refine r_ai_20 hm (fun v4 hm => ?_)
    exact hm
def t_X12_summedBy_58 (σ : r_S) (x1 : Int32) (x3 : Int32) : Option (Int64 × r_S) :=
  (t_ai 288 (r_A σ 5) x3).bind fun v12 =>
  (t_ai 288 (r_A σ 5) ((x3 + (1 : Int32)))).bind fun v14 =>
  (t_X12_reckons σ x1 v12 v14).bind fun (r15, σ16) =>
  some (r15, σ16)
set_option maxRecDepth 20000 in
theorem l_X12_summedBy_58 (b : Nat) (h0 : q_H) {r : Int64} {s' : r_S} : ∀ (σ : r_S) (x1 : Int32) (x3 : Int32), t_X12_summedBy_58 σ x1 x3 = some (r, s') → m_X12_summedBy_58 (r_H b σ h0) b x1 x3 = some (r, r_H b s' h0) := by
  intro σ x1 x3 hm
  unfold t_X12_summedBy_58 at hm
  unfold m_X12_summedBy_58
  refine r_gn_5 ?_
  refine r_ai_5 hm (fun v12 hm => ?_)
  refine r_gn_5 ?_
  refine r_ai_5 hm (fun v14 hm => ?_)
  refine r_cS (fun r9 s9 e9 => l_X12_reckons _ _ _ _ _ _ e9) hm (fun r15 σ16 hm => ?_)
  exact r_retS hm
def t_X12_summedBy_2  : Nat → r_S → Int32 → Int32 → Option (Int64 × r_S)
  | 0, _, _, _ => none
  | n + 1, σ, x1, x2 =>
    (t_ai 6 (r_A σ 6) x1).bind fun v2 =>
    if v2 ≤ x2 then
      some ((0 : Int64), σ)
    else
      (t_ai 288 (r_A σ 5) (((((48 : Int32) * x1) + ((4 : Int32) * x2)) + (2 : Int32)))).bind fun v4 =>
      if v4 < 0 then
        t_X12_summedBy_58 σ x1 ((((48 : Int32) * x1) + ((4 : Int32) * x2)))
      else
        (t_ai 288 (r_A σ 5) (((((48 : Int32) * x1) + ((4 : Int32) * x2)) + (2 : Int32)))).bind fun v6 =>
        (t_ai 288 (r_A σ 5) (((((48 : Int32) * x1) + ((4 : Int32) * x2)) + (3 : Int32)))).bind fun v8 =>
        (t_X12_reckons σ x1 v6 v8).bind fun (r9, σ10) =>
        if (lg_cmp r9 ((1 : Int64))) = 0 then
          t_X12_summedBy_58 σ10 x1 ((((48 : Int32) * x1) + ((4 : Int32) * x2)))
        else
          t_X12_summedBy_2 n σ10 x1 ((x2 + (1 : Int32)))
set_option maxRecDepth 20000 in
theorem l_X12_summedBy_2 (b : Nat) (h0 : q_H) {r : Int64} {s' : r_S} : ∀ (n : Nat) (σ : r_S) (x1 : Int32) (x2 : Int32), t_X12_summedBy_2 n σ x1 x2 = some (r, s') → m_X12_summedBy_2 n (r_H b σ h0) b x1 x2 = some (r, r_H b s' h0) := by
  intro n
  induction n with
  | zero => intro σ x1 x2 hm; cases hm
  | succ n ih =>
    intro σ x1 x2 hm
    unfold t_X12_summedBy_2 at hm
    unfold m_X12_summedBy_2
    refine r_gn_6 ?_
    refine r_ai_6 hm (fun v2 hm => ?_)
    refine r_if _ _ hm (fun _ hm => ?_) (fun _ hm => ?_)
    · exact r_retS hm
    · refine r_gn_5 ?_
      refine r_ai_5 hm (fun v4 hm => ?_)
      refine r_if _ _ hm (fun _ hm => ?_) (fun _ hm => ?_)
      · exact l_X12_summedBy_58 _ _ _ _ _ hm
      · refine r_gn_5 ?_
        refine r_ai_5 hm (fun v6 hm => ?_)
        refine r_gn_5 ?_
        refine r_ai_5 hm (fun v8 hm => ?_)
        refine r_cS (fun r9 s9 e9 => l_X12_reckons _ _ _ _ _ _ e9) hm (fun r9 σ10 hm => ?_)
        refine r_if _ _ hm (fun _ hm => ?_) (fun _ hm => ?_)
        · exact l_X12_summedBy_58 _ _ _ _ _ hm
        · exact ih _ _ _ hm
def t_X12_summedBy (σ : r_S) (a1 : Int32) : Option (Int64 × r_S) :=
  t_X12_summedBy_2 q_fu σ a1 ((0 : Int32))
set_option maxRecDepth 20000 in
theorem l_X12_summedBy (b : Nat) (h0 : q_H) (σ : r_S) (a1 : Int32) {r : Int64} {s' : r_S} (hm : t_X12_summedBy σ a1 = some (r, s')) : m_X12_summedBy (r_H b σ h0) b a1 = some (r, r_H b s' h0) := by
  unfold t_X12_summedBy at hm
  unfold m_X12_summedBy
  exact l_X12_summedBy_2 _ _ _ _ _ _ hm
def t_X12_sumOf (σ : r_S) (a1 : Int32) : Option (Int64 × r_S) :=
  (t_sl 11 σ 19 ((0 : Int32)) a1.toInt64).bind fun σ2 =>
  (t_X12_sideOf σ2 a1).bind fun r4 =>
  (t_sl 11 σ2 19 ((1 : Int32)) r4.toInt64).bind fun σ6 =>
  (t_ai 106 (r_A σ6 20) (((52 : Int32) + a1))).bind fun v9 =>
  (t_sl 11 σ6 19 ((2 : Int32)) v9.toInt64).bind fun σ10 =>
  (t_X12_windOf σ10 a1).bind fun r12 =>
  (t_sl 11 σ10 19 ((3 : Int32)) r12.toInt64).bind fun σ14 =>
  (t_ai 106 (r_A σ14 20) (((60 : Int32) + a1))).bind fun v17 =>
  (t_sl 11 σ14 19 ((4 : Int32)) v17.toInt64).bind fun σ18 =>
  (t_X12_placeOf σ18 a1).bind fun r20 =>
  (t_sl 11 σ18 19 ((5 : Int32)) r20.toInt64).bind fun σ22 =>
  (t_X12_upOnes σ22).bind fun r24 =>
  (t_X12_sideOf σ22 a1).bind fun r26 =>
  (t_X12_onesOn σ22 r26).bind fun r28 =>
  (m_X12_bits (((r24 &&& r28) &&& (((1 : Int32) <<< (a1 &&& 31)) ^^^ (-1 : Int32))))).bind fun r30 =>
  (t_sl 11 σ22 19 ((6 : Int32)) r30.toInt64).bind fun σ32 =>
  (t_X12_towards σ32 a1).bind fun r34 =>
  (t_sl 11 σ32 19 ((7 : Int32)) r34.toInt64).bind fun σ36 =>
  (t_ai 106 (r_A σ36 20) ((1 : Int32))).bind fun v39 =>
  (t_sl 11 σ36 19 ((8 : Int32)) v39.toInt64).bind fun σ40 =>
  (t_X12_workOf σ40 a1).bind fun r42 =>
  (t_sl 11 σ40 19 ((9 : Int32)) r42.toInt64).bind fun σ44 =>
  (t_ai 106 (r_A σ44 20) ((10 : Int32))).bind fun v47 =>
  (t_sl 11 σ44 19 ((10 : Int32)) v47.toInt64).bind fun σ48 =>
  let v49 := r_I σ48 21
  (t_X12_summedBy σ48 v49).bind fun (r50, σ51) =>
  some (r50, σ51)
set_option maxRecDepth 20000 in
theorem l_X12_sumOf (b : Nat) (h0 : q_H) (σ : r_S) (a1 : Int32) {r : Int64} {s' : r_S} (hm : t_X12_sumOf σ a1 = some (r, s')) : m_X12_sumOf (r_H b σ h0) b a1 = some (r, r_H b s' h0) := by
  unfold t_X12_sumOf at hm
  unfold m_X12_sumOf
  refine r_gn_19 ?_
  refine r_as_19 hm (fun σ2 hm => ?_)
  refine r_gn_19 ?_
  refine r_cP (fun r9 e9 => l_X12_sideOf _ _ _ _ e9) hm (fun r4 hm => ?_)
  refine r_as_19 hm (fun σ6 hm => ?_)
  refine r_gn_19 ?_
  refine r_gn_20 ?_
  refine r_ai_20 hm (fun v9 hm => ?_)
  refine r_as_19 hm (fun σ10 hm => ?_)
  refine r_gn_19 ?_
  refine r_cP (fun r9 e9 => l_X12_windOf _ _ _ _ e9) hm (fun r12 hm => ?_)
  refine r_as_19 hm (fun σ14 hm => ?_)
  refine r_gn_19 ?_
  refine r_gn_20 ?_
  refine r_ai_20 hm (fun v17 hm => ?_)
  refine r_as_19 hm (fun σ18 hm => ?_)
  refine r_gn_19 ?_
  refine r_cP (fun r9 e9 => l_X12_placeOf _ _ _ _ e9) hm (fun r20 hm => ?_)
  refine r_as_19 hm (fun σ22 hm => ?_)
  refine r_gn_19 ?_
  refine r_cP (fun r9 e9 => l_X12_upOnes _ _ _  e9) hm (fun r24 hm => ?_)
  refine r_cP (fun r9 e9 => l_X12_sideOf _ _ _ _ e9) hm (fun r26 hm => ?_)
  refine r_cP (fun r9 e9 => l_X12_onesOn _ _ _ _ e9) hm (fun r28 hm => ?_)
  refine r_bd hm (fun r30 hm => ?_)
  refine r_as_19 hm (fun σ32 hm => ?_)
  refine r_gn_19 ?_
  refine r_cP (fun r9 e9 => l_X12_towards _ _ _ _ e9) hm (fun r34 hm => ?_)
  refine r_as_19 hm (fun σ36 hm => ?_)
  refine r_gn_19 ?_
  refine r_gn_20 ?_
  refine r_ai_20 hm (fun v39 hm => ?_)
  refine r_as_19 hm (fun σ40 hm => ?_)
  refine r_gn_19 ?_
  refine r_cP (fun r9 e9 => l_X12_workOf _ _ _ _ e9) hm (fun r42 hm => ?_)
  refine r_as_19 hm (fun σ44 hm => ?_)
  refine r_gn_19 ?_
  refine r_gn_20 ?_
  refine r_ai_20 hm (fun v47 hm => ?_)
  refine r_as_19 hm (fun σ48 hm => ?_)
  refine r_gi_21 ?_
  refine r_cS (fun r9 s9 e9 => l_X12_summedBy _ _ _ _ e9) hm (fun r50 σ51 hm => ?_)
  exact r_retS hm
def t_X12_effortOf_77 (σ : r_S) (x1 : Int32) (x2 : Int32) : Option (Int32 × r_S) :=
  (t_X12_windOf σ x1).bind fun r12 =>
  if r12 ≤ x2 then
    (t_X12_windOf σ x1).bind fun r14 =>
    some (r14, σ)
  else
    some (x2, σ)
set_option maxRecDepth 20000 in
theorem l_X12_effortOf_77 (b : Nat) (h0 : q_H) {r : Int32} {s' : r_S} : ∀ (σ : r_S) (x1 : Int32) (x2 : Int32), t_X12_effortOf_77 σ x1 x2 = some (r, s') → m_X12_effortOf_77 (r_H b σ h0) b x1 x2 = some (r, r_H b s' h0) := by
  intro σ x1 x2 hm
  unfold t_X12_effortOf_77 at hm
  unfold m_X12_effortOf_77
  refine r_cP (fun r9 e9 => l_X12_windOf _ _ _ _ e9) hm (fun r12 hm => ?_)
  refine r_if _ _ hm (fun _ hm => ?_) (fun _ hm => ?_)
  · refine r_cP (fun r9 e9 => l_X12_windOf _ _ _ _ e9) hm (fun r14 hm => ?_)
    exact r_retS hm
  · exact r_retS hm
def t_X12_effortOf_76 (σ : r_S) (x1 : Int32) (s0 : Int32) : Option (Int32 × r_S) :=
  t_X12_effortOf_77 σ x1 s0
set_option maxRecDepth 20000 in
theorem l_X12_effortOf_76 (b : Nat) (h0 : q_H) {r : Int32} {s' : r_S} : ∀ (σ : r_S) (x1 : Int32) (s0 : Int32), t_X12_effortOf_76 σ x1 s0 = some (r, s') → m_X12_effortOf_76 (r_H b σ h0) b x1 s0 = some (r, r_H b s' h0) := by
  intro σ x1 s0 hm
  unfold t_X12_effortOf_76 at hm
  unfold m_X12_effortOf_76
  exact l_X12_effortOf_77 _ _ _ _ _ hm
def t_X12_effortOf_29 (σ : r_S) (x1 : Int32) (s0 : Int32) : Option (Int32 × r_S) :=
  (t_ai 8 (r_A σ 23) x1).bind fun v8 =>
  if 0 ≤ v8 then
    t_X12_effortOf_77 σ x1 s0
  else
    let v9 := r_I σ 21
    if v9 < 0 then
      t_X12_effortOf_77 σ x1 s0
    else
      (t_X12_sumOf σ x1).bind fun (r10, σ11) =>
      if 0 ≤ (lg_cmp r10 ((0 : Int64))) then
        if (lg_cmp r10 ((3 : Int64))) ≤ 0 then
          t_X12_effortOf_76 σ11 x1 r10.toInt32
        else
          t_X12_effortOf_76 σ11 x1 ((3 : Int32))
      else
        t_X12_effortOf_76 σ11 x1 ((0 : Int32))
set_option maxRecDepth 20000 in
theorem l_X12_effortOf_29 (b : Nat) (h0 : q_H) {r : Int32} {s' : r_S} : ∀ (σ : r_S) (x1 : Int32) (s0 : Int32), t_X12_effortOf_29 σ x1 s0 = some (r, s') → m_X12_effortOf_29 (r_H b σ h0) b x1 s0 = some (r, r_H b s' h0) := by
  intro σ x1 s0 hm
  unfold t_X12_effortOf_29 at hm
  unfold m_X12_effortOf_29
  refine r_gn_23 ?_
  refine r_ai_23 hm (fun v8 hm => ?_)
  refine r_if _ _ hm (fun _ hm => ?_) (fun _ hm => ?_)
  · exact l_X12_effortOf_77 _ _ _ _ _ hm
  · refine r_gi_21 ?_
    refine r_if _ _ hm (fun _ hm => ?_) (fun _ hm => ?_)
    · exact l_X12_effortOf_77 _ _ _ _ _ hm
    · refine r_cS (fun r9 s9 e9 => l_X12_sumOf _ _ _ _ e9) hm (fun r10 σ11 hm => ?_)
      refine r_if _ _ hm (fun _ hm => ?_) (fun _ hm => ?_)
      · refine r_if _ _ hm (fun _ hm => ?_) (fun _ hm => ?_)
        · exact l_X12_effortOf_76 _ _ _ _ _ hm
        · exact l_X12_effortOf_76 _ _ _ _ _ hm
      · exact l_X12_effortOf_76 _ _ _ _ _ hm
def t_X12_effortOf (σ : r_S) (a1 : Int32) : Option (Int32 × r_S) :=
  (t_X12_isUp σ a1).bind fun r1 =>
  if r1 = 0 then
    some ((0 : Int32), σ)
  else
    (t_ai 8 (r_A σ 23) a1).bind fun v4 =>
    if v4 < 0 then
      t_X12_effortOf_29 σ a1 ((2 : Int32))
    else
      (t_ai 8 (r_A σ 23) a1).bind fun v6 =>
      t_X12_effortOf_29 σ a1 v6
set_option maxRecDepth 20000 in
theorem l_X12_effortOf (b : Nat) (h0 : q_H) (σ : r_S) (a1 : Int32) {r : Int32} {s' : r_S} (hm : t_X12_effortOf σ a1 = some (r, s')) : m_X12_effortOf (r_H b σ h0) b a1 = some (r, r_H b s' h0) := by
  unfold t_X12_effortOf at hm
  unfold m_X12_effortOf
  refine r_cP (fun r9 e9 => l_X12_isUp _ _ _ _ e9) hm (fun r1 hm => ?_)
  refine r_if _ _ hm (fun _ hm => ?_) (fun _ hm => ?_)
  · exact r_retS hm
  · refine r_gn_23 ?_
    refine r_ai_23 hm (fun v4 hm => ?_)
    refine r_if _ _ hm (fun _ hm => ?_) (fun _ hm => ?_)
    · exact l_X12_effortOf_29 _ _ _ _ _ hm
    · refine r_gn_23 ?_
      refine r_ai_23 hm (fun v6 hm => ?_)
      exact l_X12_effortOf_29 _ _ _ _ _ hm
def t_X12_tires (σ : r_S) (a1 : Int32) (a2 : Int32) : Option r_S :=
  (t_X12_workOf σ a1).bind fun r2 =>
  (m_X12_within ((r2 + a2)) ((0 : Int32)) ((999 : Int32))).bind fun r4 =>
  (t_si 106 σ 20 ((((12 : Int32) + ((5 : Int32) * a1)) + (4 : Int32))) r4).bind fun σ6 =>
  if a2 ≤ 0 then
    (t_X12_windOf σ6 a1).bind fun r7 =>
    (t_ai 106 (r_A σ6 20) (((76 : Int32) + a1))).bind fun v10 =>
    if v10 ≤ r7 then
      some σ6
    else
      (t_X12_windOf σ6 a1).bind fun r12 =>
      (t_ai 106 (r_A σ6 20) (((76 : Int32) + a1))).bind fun v15 =>
      (m_X12_within ((r12 + (2 : Int32))) ((0 : Int32)) v15).bind fun r16 =>
      (t_si 106 σ6 20 ((((12 : Int32) + ((5 : Int32) * a1)) + (2 : Int32))) r16).bind fun σ18 =>
      some σ18
  else
    (t_ai 106 (r_A σ6 20) ((((12 : Int32) + ((5 : Int32) * a1)) + (2 : Int32)))).bind fun v20 =>
    (t_si 106 σ6 20 ((((12 : Int32) + ((5 : Int32) * a1)) + (2 : Int32))) ((v20 - a2))).bind fun σ21 =>
    some σ21
set_option maxRecDepth 20000 in
theorem l_X12_tires (b : Nat) (h0 : q_H) (σ : r_S) (a1 : Int32) (a2 : Int32) {s' : r_S} (hm : t_X12_tires σ a1 a2 = some s') : m_X12_tires (r_H b σ h0) b a1 a2 = some (r_H b s' h0) := by
  unfold t_X12_tires at hm
  unfold m_X12_tires
  refine r_gn_20 ?_
  refine r_cP (fun r9 e9 => l_X12_workOf _ _ _ _ e9) hm (fun r2 hm => ?_)
  refine r_bd hm (fun r4 hm => ?_)
  refine r_as_20 hm (fun σ6 hm => ?_)
  refine r_if _ _ hm (fun _ hm => ?_) (fun _ hm => ?_)
  · refine r_cP (fun r9 e9 => l_X12_windOf _ _ _ _ e9) hm (fun r7 hm => ?_)
    refine r_gn_20 ?_
    refine r_ai_20 hm (fun v10 hm => ?_)
    refine r_if _ _ hm (fun _ hm => ?_) (fun _ hm => ?_)
    · exact r_retV hm
    · refine r_gn_20 ?_
      refine r_cP (fun r9 e9 => l_X12_windOf _ _ _ _ e9) hm (fun r12 hm => ?_)
      refine r_gn_20 ?_
      refine r_ai_20 hm (fun v15 hm => ?_)
      refine r_bd hm (fun r16 hm => ?_)
      refine r_as_20 hm (fun σ18 hm => ?_)
      exact r_retV hm
  · refine r_gn_20 ?_
    refine r_ai_20 hm (fun v20 hm => ?_)
    refine r_as_20 hm (fun σ21 hm => ?_)
    exact r_retV hm
def t_X12_atPlace_32 (k2 : r_S → Int32 → Int32 → Int32 → Option Int32) (σ0 : r_S) (x1 : Int32) (x2 : Int32) (x3 : Int32) : Option Int32 :=
  k2 σ0 x1 x2 ((x3 + (1 : Int32)))
set_option maxRecDepth 20000 in
theorem l_X12_atPlace_32 (b : Nat) (h0 : q_H) {r : Int32} {k2 : r_S → Int32 → Int32 → Int32 → Option Int32} {gk2 : q_H → Nat → Int32 → Int32 → Int32 → Option Int32} (hk2 : ∀ (σ0 : r_S) (x1 : Int32) (x2 : Int32) (x3 : Int32), k2 σ0 x1 x2 x3 = some r → gk2 (r_H b σ0 h0) b x1 x2 x3 = some r) : ∀ (σ0 : r_S) (x1 : Int32) (x2 : Int32) (x3 : Int32), t_X12_atPlace_32 k2 σ0 x1 x2 x3 = some r → m_X12_atPlace_32 gk2 (r_H b σ0 h0) b x1 x2 x3 = some r := by
  intro σ0 x1 x2 x3 hm
  unfold t_X12_atPlace_32 at hm
  unfold m_X12_atPlace_32
  exact hk2 _ _ _ _ hm
def t_X12_atPlace_2  : Nat → r_S → Int32 → Int32 → Int32 → Option Int32
  | 0, _, _, _, _ => none
  | n + 1, σ0, x1, x2, x3 =>
    (t_ai 106 (r_A σ0 20) ((3 : Int32))).bind fun v2 =>
    if v2 ≤ x3 then
      some ((-1 : Int32))
    else
      (t_X12_sideOf σ0 x3).bind fun r3 =>
      if r3 = x1 then
        (t_X12_placeOf σ0 x3).bind fun r5 =>
        if r5 = x2 then
          some x3
        else
          t_X12_atPlace_32 (t_X12_atPlace_2 n) σ0 x1 x2 x3
      else
        t_X12_atPlace_32 (t_X12_atPlace_2 n) σ0 x1 x2 x3
set_option maxRecDepth 20000 in
theorem l_X12_atPlace_2 (b : Nat) (h0 : q_H) {r : Int32} : ∀ (n : Nat) (σ0 : r_S) (x1 : Int32) (x2 : Int32) (x3 : Int32), t_X12_atPlace_2 n σ0 x1 x2 x3 = some r → m_X12_atPlace_2 n (r_H b σ0 h0) b x1 x2 x3 = some r := by
  intro n
  induction n with
  | zero => intro σ0 x1 x2 x3 hm; cases hm
  | succ n ih =>
    intro σ0 x1 x2 x3 hm
    unfold t_X12_atPlace_2 at hm
    unfold m_X12_atPlace_2
    refine r_gn_20 ?_
    refine r_ai_20 hm (fun v2 hm => ?_)
    refine r_if _ _ hm (fun _ hm => ?_) (fun _ hm => ?_)
    · exact hm
    · refine r_cP (fun r9 e9 => l_X12_sideOf _ _ _ _ e9) hm (fun r3 hm => ?_)
      refine r_if _ _ hm (fun _ hm => ?_) (fun _ hm => ?_)
      · refine r_cP (fun r9 e9 => l_X12_placeOf _ _ _ _ e9) hm (fun r5 hm => ?_)
        refine r_if _ _ hm (fun _ hm => ?_) (fun _ hm => ?_)
        · exact hm
        · exact l_X12_atPlace_32 _ _ ih _ _ _ _ hm
      · exact l_X12_atPlace_32 _ _ ih _ _ _ _ hm
def t_X12_atPlace (σ0 : r_S) (a1 : Int32) (a2 : Int32) : Option Int32 :=
  t_X12_atPlace_2 q_fu σ0 a1 a2 ((0 : Int32))
set_option maxRecDepth 20000 in
theorem l_X12_atPlace (b : Nat) (h0 : q_H) (σ0 : r_S) (a1 : Int32) (a2 : Int32) {r : Int32} (hm : t_X12_atPlace σ0 a1 a2 = some r) : m_X12_atPlace (r_H b σ0 h0) b a1 a2 = some r := by
  unfold t_X12_atPlace at hm
  unfold m_X12_atPlace
  exact l_X12_atPlace_2 _ _ _ _ _ _ _ hm
