def t_X12_slips_12  : Nat → r_S → Int32 → Int32 → Int32 → Int32 → Option r_S
  | 0, _, _, _, _, _ => none
  | n + 1, σ, x1, x2, x3, x4 =>
    if x3 ≤ x4 then
      some σ
    else
      (t_X12_atPlace σ x1 x4).bind fun r5 =>
      (t_ai 106 (r_A σ 20) (((60 : Int32) + r5))).bind fun v8 =>
      (t_ai 106 (r_A σ 20) ((2 : Int32))).bind fun v10 =>
      if v8 < ((x2 + v10) - (5 : Int32)) then
        (t_si 106 σ 20 ((((12 : Int32) + ((5 : Int32) * r5)) + (3 : Int32))) ((0 : Int32))).bind fun σ12 =>
        some σ12
      else
        t_X12_slips_12 n σ x1 x2 x3 ((x4 + (1 : Int32)))
set_option maxRecDepth 20000 in
theorem l_X12_slips_12 (b : Nat) (h0 : q_H) {s' : r_S} : ∀ (n : Nat) (σ : r_S) (x1 : Int32) (x2 : Int32) (x3 : Int32) (x4 : Int32), t_X12_slips_12 n σ x1 x2 x3 x4 = some s' → m_X12_slips_12 n (r_H b σ h0) b x1 x2 x3 x4 = some (r_H b s' h0) := by
  intro n
  induction n with
  | zero => intro σ x1 x2 x3 x4 hm; cases hm
  | succ n ih =>
    intro σ x1 x2 x3 x4 hm
    unfold t_X12_slips_12 at hm
    unfold m_X12_slips_12
    refine r_if _ _ hm (fun _ hm => ?_) (fun _ hm => ?_)
    · exact r_retV hm
    · refine r_cP (fun r9 e9 => l_X12_atPlace _ _ _ _ _ e9) hm (fun r5 hm => ?_)
      refine r_gn_20 ?_
      refine r_ai_20 hm (fun v8 hm => ?_)
      refine r_gn_20 ?_
      refine r_ai_20 hm (fun v10 hm => ?_)
      refine r_if _ _ hm (fun _ hm => ?_) (fun _ hm => ?_)
      · refine r_gn_20 ?_
        refine r_as_20 hm (fun σ12 hm => ?_)
        exact r_retV hm
      · exact ih _ _ _ _ _ hm
def t_X12_slips (σ : r_S) (a1 : Int32) (a2 : Int32) : Option r_S :=
  (t_X12_onesOn σ a1).bind fun r1 =>
  (m_X12_bits r1).bind fun r3 =>
  t_X12_slips_12 q_fu σ a1 a2 r3 ((0 : Int32))
set_option maxRecDepth 20000 in
theorem l_X12_slips (b : Nat) (h0 : q_H) (σ : r_S) (a1 : Int32) (a2 : Int32) {s' : r_S} (hm : t_X12_slips σ a1 a2 = some s') : m_X12_slips (r_H b σ h0) b a1 a2 = some (r_H b s' h0) := by
  unfold t_X12_slips at hm
  unfold m_X12_slips
  refine r_cP (fun r9 e9 => l_X12_onesOn _ _ _ _ e9) hm (fun r1 hm => ?_)
  refine r_bd hm (fun r3 hm => ?_)
  exact l_X12_slips_12 _ _ _ _ _ _ _ _ hm
def t_X12_passes_77 (k52 : r_S → Int32 → Int32 → Option r_S) (σ : r_S) (x2 : Int32) (s0 : Int32) (s1 : Int32) : Option r_S :=
  (t_ai 106 (r_A σ 20) (((52 : Int32) + x2))).bind fun v26 =>
  (t_ai 8 (r_A σ 24) x2).bind fun v28 =>
  (t_ai 8 (r_A σ 24) x2).bind fun v30 =>
  (t_X12_tires σ x2 v30).bind fun σ32 =>
  (t_si 106 σ32 20 ((((12 : Int32) + ((5 : Int32) * x2)) + (3 : Int32))) ((1 : Int32))).bind fun σ34 =>
  k52 σ34 ((s1 + ((s0 * v26) * v28))) ((x2 + (1 : Int32)))
set_option maxRecDepth 20000 in
theorem l_X12_passes_77 (b : Nat) (h0 : q_H) {s' : r_S} {k52 : r_S → Int32 → Int32 → Option r_S} {gk52 : q_H → Nat → Int32 → Int32 → Option q_H} (hk52 : ∀ (σ : r_S) (x1 : Int32) (x2 : Int32), k52 σ x1 x2 = some s' → gk52 (r_H b σ h0) b x1 x2 = some (r_H b s' h0)) : ∀ (σ : r_S) (x2 : Int32) (s0 : Int32) (s1 : Int32), t_X12_passes_77 k52 σ x2 s0 s1 = some s' → m_X12_passes_77 gk52 (r_H b σ h0) b x2 s0 s1 = some (r_H b s' h0) := by
  intro σ x2 s0 s1 hm
  unfold t_X12_passes_77 at hm
  unfold m_X12_passes_77
  refine r_gn_20 ?_
  refine r_ai_20 hm (fun v26 hm => ?_)
  refine r_gn_24 ?_
  refine r_ai_24 hm (fun v28 hm => ?_)
  refine r_gn_24 ?_
  refine r_ai_24 hm (fun v30 hm => ?_)
  refine r_cV (fun s9 e9 => l_X12_tires _ _ _ _ _ e9) hm (fun σ32 hm => ?_)
  refine r_gn_20 ?_
  refine r_as_20 hm (fun σ34 hm => ?_)
  exact hk52 _ _ _ hm
def t_X12_passes_175 (σ : r_S) : Option r_S :=
  (t_ai 106 (r_A σ 20) ((10 : Int32))).bind fun v38 =>
  (t_si 106 σ 20 ((10 : Int32)) ((v38 + (1 : Int32)))).bind fun σ39 =>
  some σ39
set_option maxRecDepth 20000 in
theorem l_X12_passes_175 (b : Nat) (h0 : q_H) {s' : r_S} : ∀ (σ : r_S), t_X12_passes_175 σ = some s' → m_X12_passes_175 (r_H b σ h0) b = some (r_H b s' h0) := by
  intro σ hm
  unfold t_X12_passes_175 at hm
  unfold m_X12_passes_175
  refine r_gn_20 ?_
  refine r_ai_20 hm (fun v38 hm => ?_)
  refine r_as_20 hm (fun σ39 hm => ?_)
  exact r_retV hm
def t_X12_passes_164 (σ : r_S) (x2 : Int32) : Option r_S :=
  if 0 ≤ x2 then
    t_X12_passes_175 σ
  else
    (t_X12_slips σ ((1 : Int32)) ((0 - x2))).bind fun σ36 =>
    t_X12_passes_175 σ36
set_option maxRecDepth 20000 in
theorem l_X12_passes_164 (b : Nat) (h0 : q_H) {s' : r_S} : ∀ (σ : r_S) (x2 : Int32), t_X12_passes_164 σ x2 = some s' → m_X12_passes_164 (r_H b σ h0) b x2 = some (r_H b s' h0) := by
  intro σ x2 hm
  unfold t_X12_passes_164 at hm
  unfold m_X12_passes_164
  refine r_if _ _ hm (fun _ hm => ?_) (fun _ hm => ?_)
  · exact l_X12_passes_175 _ _ _ hm
  · refine r_cV (fun s9 e9 => l_X12_slips _ _ _ _ _ e9) hm (fun σ36 hm => ?_)
    exact l_X12_passes_175 _ _ _ hm
def t_X12_passes_52  : Nat → r_S → Int32 → Int32 → Option r_S
  | 0, _, _, _ => none
  | n + 1, σ, x1, x2 =>
    (t_ai 106 (r_A σ 20) ((3 : Int32))).bind fun v14 =>
    if v14 ≤ x2 then
      (t_ai 106 (r_A σ 20) ((11 : Int32))).bind fun v17 =>
      (m_X12_within ((v17 + (x1 / (4 : Int32)))) ((-99 : Int32)) ((99 : Int32))).bind fun r18 =>
      (t_si 106 σ 20 ((11 : Int32)) r18).bind fun σ20 =>
      if (x1 / (4 : Int32)) ≤ 0 then
        t_X12_passes_164 σ20 ((x1 / (4 : Int32)))
      else
        (t_X12_slips σ20 ((0 : Int32)) ((x1 / (4 : Int32)))).bind fun σ22 =>
        t_X12_passes_164 σ22 ((x1 / (4 : Int32)))
    else
      (t_X12_sideOf σ x2).bind fun r23 =>
      if r23 = (1 : Int32) then
        t_X12_passes_77 (t_X12_passes_52 n) σ x2 ((1 : Int32)) x1
      else
        t_X12_passes_77 (t_X12_passes_52 n) σ x2 ((-1 : Int32)) x1
set_option maxRecDepth 20000 in
theorem l_X12_passes_52 (b : Nat) (h0 : q_H) {s' : r_S} : ∀ (n : Nat) (σ : r_S) (x1 : Int32) (x2 : Int32), t_X12_passes_52 n σ x1 x2 = some s' → m_X12_passes_52 n (r_H b σ h0) b x1 x2 = some (r_H b s' h0) := by
  intro n
  induction n with
  | zero => intro σ x1 x2 hm; cases hm
  | succ n ih =>
    intro σ x1 x2 hm
    unfold t_X12_passes_52 at hm
    unfold m_X12_passes_52
    refine r_gn_20 ?_
    refine r_ai_20 hm (fun v14 hm => ?_)
    refine r_if _ _ hm (fun _ hm => ?_) (fun _ hm => ?_)
    · refine r_gn_20 ?_
      refine r_gn_20 ?_
      refine r_ai_20 hm (fun v17 hm => ?_)
      refine r_bd hm (fun r18 hm => ?_)
      refine r_as_20 hm (fun σ20 hm => ?_)
      refine r_if _ _ hm (fun _ hm => ?_) (fun _ hm => ?_)
      · exact l_X12_passes_164 _ _ _ _ hm
      · refine r_cV (fun s9 e9 => l_X12_slips _ _ _ _ _ e9) hm (fun σ22 hm => ?_)
        exact l_X12_passes_164 _ _ _ _ hm
    · refine r_cP (fun r9 e9 => l_X12_sideOf _ _ _ _ e9) hm (fun r23 hm => ?_)
      refine r_if _ _ hm (fun _ hm => ?_) (fun _ hm => ?_)
      · exact l_X12_passes_77 _ _ ih _ _ _ _ hm
      · exact l_X12_passes_77 _ _ ih _ _ _ _ hm
def t_X12_passes_23  : Nat → r_S → Int32 → Int32 → Option r_S
  | 0, _, _, _ => none
  | n + 1, σ, x1, x2 =>
    (t_ai 106 (r_A σ 20) ((3 : Int32))).bind fun v7 =>
    if v7 ≤ x2 then
      t_X12_passes_52 q_fu σ x1 ((0 : Int32))
    else
      (t_X12_effortOf σ x2).bind fun (r9, σ10) =>
      (t_si 8 σ10 24 x2 r9).bind fun σ12 =>
      t_X12_passes_23 n σ12 x1 ((x2 + (1 : Int32)))
set_option maxRecDepth 20000 in
theorem l_X12_passes_23 (b : Nat) (h0 : q_H) {s' : r_S} : ∀ (n : Nat) (σ : r_S) (x1 : Int32) (x2 : Int32), t_X12_passes_23 n σ x1 x2 = some s' → m_X12_passes_23 n (r_H b σ h0) b x1 x2 = some (r_H b s' h0) := by
  intro n
  induction n with
  | zero => intro σ x1 x2 hm; cases hm
  | succ n ih =>
    intro σ x1 x2 hm
    unfold t_X12_passes_23 at hm
    unfold m_X12_passes_23
    refine r_gn_20 ?_
    refine r_ai_20 hm (fun v7 hm => ?_)
    refine r_if _ _ hm (fun _ hm => ?_) (fun _ hm => ?_)
    · exact l_X12_passes_52 _ _ _ _ _ _ hm
    · refine r_gn_24 ?_
      refine r_cS (fun r9 s9 e9 => l_X12_effortOf _ _ _ _ e9) hm (fun r9 σ10 hm => ?_)
      refine r_as_24 hm (fun σ12 hm => ?_)
      exact ih _ _ _ hm
def t_X12_passes (σ : r_S) : Option r_S :=
  (t_X12_isOver σ).bind fun r1 =>
  if r1 = 0 then
    t_X12_passes_23 q_fu σ ((0 : Int32)) ((0 : Int32))
  else
    (t_ai 106 (r_A σ 20) ((10 : Int32))).bind fun v4 =>
    (t_si 106 σ 20 ((10 : Int32)) ((v4 + (1 : Int32)))).bind fun σ5 =>
    some σ5
set_option maxRecDepth 20000 in
theorem l_X12_passes (b : Nat) (h0 : q_H) (σ : r_S)  {s' : r_S} (hm : t_X12_passes σ = some s') : m_X12_passes (r_H b σ h0) b = some (r_H b s' h0) := by
  unfold t_X12_passes at hm
  unfold m_X12_passes
  refine r_cP (fun r9 e9 => l_X12_isOver _ _ _  e9) hm (fun r1 hm => ?_)
  refine r_if _ _ hm (fun _ hm => ?_) (fun _ hm => ?_)
  · exact l_X12_passes_23 _ _ _ _ _ _ hm
  · refine r_gn_20 ?_
    refine r_ai_20 hm (fun v4 hm => ?_)
    refine r_as_20 hm (fun σ5 hm => ?_)
    exact r_retV hm
def t_X12_passesAll_2  : Nat → r_S → Int32 → Int32 → Option r_S
  | 0, _, _, _ => none
  | n + 1, σ, x1, x2 =>
    if x1 ≤ x2 then
      some σ
    else
      (t_X12_passes σ).bind fun σ2 =>
      t_X12_passesAll_2 n σ2 x1 ((x2 + (1 : Int32)))
set_option maxRecDepth 20000 in
theorem l_X12_passesAll_2 (b : Nat) (h0 : q_H) {s' : r_S} : ∀ (n : Nat) (σ : r_S) (x1 : Int32) (x2 : Int32), t_X12_passesAll_2 n σ x1 x2 = some s' → m_X12_passesAll_2 n (r_H b σ h0) b x1 x2 = some (r_H b s' h0) := by
  intro n
  induction n with
  | zero => intro σ x1 x2 hm; cases hm
  | succ n ih =>
    intro σ x1 x2 hm
    unfold t_X12_passesAll_2 at hm
    unfold m_X12_passesAll_2
    refine r_if _ _ hm (fun _ hm => ?_) (fun _ hm => ?_)
    · exact r_retV hm
    · refine r_cV (fun s9 e9 => l_X12_passes _ _ _  e9) hm (fun σ2 hm => ?_)
      exact ih _ _ _ hm
def t_X12_passesAll (σ : r_S) (a1 : Int32) : Option r_S :=
  t_X12_passesAll_2 q_fu σ a1 ((0 : Int32))
set_option maxRecDepth 20000 in
theorem l_X12_passesAll (b : Nat) (h0 : q_H) (σ : r_S) (a1 : Int32) {s' : r_S} (hm : t_X12_passesAll σ a1 = some s') : m_X12_passesAll (r_H b σ h0) b a1 = some (r_H b s' h0) := by
  unfold t_X12_passesAll at hm
  unfold m_X12_passesAll
  exact l_X12_passesAll_2 _ _ _ _ _ _ hm
def t_X12_keepsAct_52  : Nat → r_S → Int32 → Option r_S
  | 0, _, _ => none
  | n + 1, σ, x1 =>
    if (42 : Int32) ≤ x1 then
      let v8 := r_I σ 26
      let σ9 := r_si σ 26 (v8 + (1 : Int32))
      some σ9
    else
      let v11 := r_I σ 26
      (t_ai 106 (r_A σ 20) (((10 : Int32) + x1))).bind fun v13 =>
      (t_si 840 σ 25 ((((42 : Int32) * v11) + x1)) v13).bind fun σ14 =>
      t_X12_keepsAct_52 n σ14 ((x1 + (1 : Int32)))
set_option maxRecDepth 20000 in
theorem l_X12_keepsAct_52 (b : Nat) (h0 : q_H) {s' : r_S} : ∀ (n : Nat) (σ : r_S) (x1 : Int32), t_X12_keepsAct_52 n σ x1 = some s' → m_X12_keepsAct_52 n (r_H b σ h0) b x1 = some (r_H b s' h0) := by
  intro n
  induction n with
  | zero => intro σ x1 hm; cases hm
  | succ n ih =>
    intro σ x1 hm
    unfold t_X12_keepsAct_52 at hm
    unfold m_X12_keepsAct_52
    refine r_if _ _ hm (fun _ hm => ?_) (fun _ hm => ?_)
    · refine r_gi_26 ?_
      refine r_pi_26 ?_
      exact r_retV hm
    · refine r_gn_25 ?_
      refine r_gi_26 ?_
      refine r_gn_20 ?_
      refine r_ai_20 hm (fun v13 hm => ?_)
      refine r_as_25 hm (fun σ14 hm => ?_)
      exact ih _ _ hm
def t_X12_keepsAct_50 (σ : r_S) : Option r_S :=
  t_X12_keepsAct_52 q_fu σ ((0 : Int32))
set_option maxRecDepth 20000 in
theorem l_X12_keepsAct_50 (b : Nat) (h0 : q_H) {s' : r_S} : ∀ (σ : r_S), t_X12_keepsAct_50 σ = some s' → m_X12_keepsAct_50 (r_H b σ h0) b = some (r_H b s' h0) := by
  intro σ hm
  unfold t_X12_keepsAct_50 at hm
  unfold m_X12_keepsAct_50
  exact l_X12_keepsAct_52 _ _ _ _ _ hm
def t_X12_keepsAct_12  : Nat → r_S → Int32 → Option r_S
  | 0, _, _ => none
  | n + 1, σ, x1 =>
    if (840 : Int32) ≤ x1 then
      let v2 := r_I σ 26
      let σ3 := r_si σ 26 (v2 - (1 : Int32))
      t_X12_keepsAct_50 σ3
    else
      (t_ai 840 (r_A σ 25) x1).bind fun v6 =>
      (t_si 840 σ 25 ((x1 - (42 : Int32))) v6).bind fun σ7 =>
      t_X12_keepsAct_12 n σ7 ((x1 + (1 : Int32)))
set_option maxRecDepth 20000 in
theorem l_X12_keepsAct_12 (b : Nat) (h0 : q_H) {s' : r_S} : ∀ (n : Nat) (σ : r_S) (x1 : Int32), t_X12_keepsAct_12 n σ x1 = some s' → m_X12_keepsAct_12 n (r_H b σ h0) b x1 = some (r_H b s' h0) := by
  intro n
  induction n with
  | zero => intro σ x1 hm; cases hm
  | succ n ih =>
    intro σ x1 hm
    unfold t_X12_keepsAct_12 at hm
    unfold m_X12_keepsAct_12
    refine r_if _ _ hm (fun _ hm => ?_) (fun _ hm => ?_)
    · refine r_gi_26 ?_
      refine r_pi_26 ?_
      exact l_X12_keepsAct_50 _ _ _ hm
    · refine r_gn_25 ?_
      refine r_gn_25 ?_
      refine r_ai_25 hm (fun v6 hm => ?_)
      refine r_as_25 hm (fun σ7 hm => ?_)
      exact ih _ _ hm
def t_X12_keepsAct (σ : r_S) : Option r_S :=
  let v1 := r_I σ 26
  if v1 = (20 : Int32) then
    t_X12_keepsAct_12 q_fu σ ((42 : Int32))
  else
    t_X12_keepsAct_50 σ
set_option maxRecDepth 20000 in
theorem l_X12_keepsAct (b : Nat) (h0 : q_H) (σ : r_S)  {s' : r_S} (hm : t_X12_keepsAct σ = some s') : m_X12_keepsAct (r_H b σ h0) b = some (r_H b s' h0) := by
  unfold t_X12_keepsAct at hm
  unfold m_X12_keepsAct
  refine r_gi_26 ?_
  refine r_if _ _ hm (fun _ hm => ?_) (fun _ hm => ?_)
  · exact l_X12_keepsAct_12 _ _ _ _ _ hm
  · exact l_X12_keepsAct_50 _ _ _ hm
def t_X12_undo_21  : Nat → r_S → Int32 → Option (Int32 × r_S)
  | 0, _, _ => none
  | n + 1, σ, x1 =>
    if (42 : Int32) ≤ x1 then
      let v4 := r_I σ 26
      some (v4, σ)
    else
      let v7 := r_I σ 26
      (t_ai 840 (r_A σ 25) ((((42 : Int32) * v7) + x1))).bind fun v8 =>
      (t_si 106 σ 20 (((10 : Int32) + x1)) v8).bind fun σ9 =>
      t_X12_undo_21 n σ9 ((x1 + (1 : Int32)))
set_option maxRecDepth 20000 in
theorem l_X12_undo_21 (b : Nat) (h0 : q_H) {r : Int32} {s' : r_S} : ∀ (n : Nat) (σ : r_S) (x1 : Int32), t_X12_undo_21 n σ x1 = some (r, s') → m_X12_undo_21 n (r_H b σ h0) b x1 = some (r, r_H b s' h0) := by
  intro n
  induction n with
  | zero => intro σ x1 hm; cases hm
  | succ n ih =>
    intro σ x1 hm
    unfold t_X12_undo_21 at hm
    unfold m_X12_undo_21
    refine r_if _ _ hm (fun _ hm => ?_) (fun _ hm => ?_)
    · refine r_gi_26 ?_
      exact r_retS hm
    · refine r_gn_20 ?_
      refine r_gn_25 ?_
      refine r_gi_26 ?_
      refine r_ai_25 hm (fun v8 hm => ?_)
      refine r_as_20 hm (fun σ9 hm => ?_)
      exact ih _ _ hm
def t_X12_undo (σ : r_S) : Option (Int32 × r_S) :=
  let v1 := r_I σ 26
  if v1 = 0 then
    some ((-1 : Int32), σ)
  else
    let v2 := r_I σ 26
    let σ3 := r_si σ 26 (v2 - (1 : Int32))
    t_X12_undo_21 q_fu σ3 ((0 : Int32))
set_option maxRecDepth 20000 in
theorem l_X12_undo (b : Nat) (h0 : q_H) (σ : r_S)  {r : Int32} {s' : r_S} (hm : t_X12_undo σ = some (r, s')) : m_X12_undo (r_H b σ h0) b = some (r, r_H b s' h0) := by
  unfold t_X12_undo at hm
  unfold m_X12_undo
  refine r_gi_26 ?_
  refine r_if _ _ hm (fun _ hm => ?_) (fun _ hm => ?_)
  · exact r_retS hm
  · refine r_gi_26 ?_
    refine r_pi_26 ?_
    exact l_X12_undo_21 _ _ _ _ _ hm
def t_X12_heave (σ : r_S) : Option (Int32 × r_S) :=
  (t_X12_isRope σ).bind fun r1 =>
  if r1 = 0 then
    some ((-1 : Int32), σ)
  else
    (t_ai 106 (r_A σ 20) ((10 : Int32))).bind fun v4 =>
    if v4 = (999 : Int32) then
      some ((-1 : Int32), σ)
    else
      (t_X12_keepsAct σ).bind fun σ6 =>
      (t_X12_passes σ6).bind fun σ8 =>
      (t_X12_ribbon σ8).bind fun r9 =>
      some (r9, σ8)
set_option maxRecDepth 20000 in
theorem l_X12_heave (b : Nat) (h0 : q_H) (σ : r_S)  {r : Int32} {s' : r_S} (hm : t_X12_heave σ = some (r, s')) : m_X12_heave (r_H b σ h0) b = some (r, r_H b s' h0) := by
  unfold t_X12_heave at hm
  unfold m_X12_heave
  refine r_cP (fun r9 e9 => l_X12_isRope _ _ _  e9) hm (fun r1 hm => ?_)
  refine r_if _ _ hm (fun _ hm => ?_) (fun _ hm => ?_)
  · exact r_retS hm
  · refine r_gn_20 ?_
    refine r_ai_20 hm (fun v4 hm => ?_)
    refine r_if _ _ hm (fun _ hm => ?_) (fun _ hm => ?_)
    · exact r_retS hm
    · refine r_cV (fun s9 e9 => l_X12_keepsAct _ _ _  e9) hm (fun σ6 hm => ?_)
      refine r_cV (fun s9 e9 => l_X12_passes _ _ _  e9) hm (fun σ8 hm => ?_)
      refine r_cP (fun r9 e9 => l_X12_ribbon _ _ _  e9) hm (fun r9 hm => ?_)
      exact r_retS hm
def t_X12_send_87 (k34 : r_S → Int32 → Int32 → Int32 → Int32 → Option (Int32 × r_S)) (σ : r_S) (x1 : Int32) (x2 : Int32) (x3 : Int32) (x4 : Int32) : Option (Int32 × r_S) :=
  k34 σ x1 x2 x3 ((x4 + (1 : Int32)))
set_option maxRecDepth 20000 in
theorem l_X12_send_87 (b : Nat) (h0 : q_H) {r : Int32} {s' : r_S} {k34 : r_S → Int32 → Int32 → Int32 → Int32 → Option (Int32 × r_S)} {gk34 : q_H → Nat → Int32 → Int32 → Int32 → Int32 → Option (Int32 × q_H)} (hk34 : ∀ (σ : r_S) (x1 : Int32) (x2 : Int32) (x3 : Int32) (x4 : Int32), k34 σ x1 x2 x3 x4 = some (r, s') → gk34 (r_H b σ h0) b x1 x2 x3 x4 = some (r, r_H b s' h0)) : ∀ (σ : r_S) (x1 : Int32) (x2 : Int32) (x3 : Int32) (x4 : Int32), t_X12_send_87 k34 σ x1 x2 x3 x4 = some (r, s') → m_X12_send_87 gk34 (r_H b σ h0) b x1 x2 x3 x4 = some (r, r_H b s' h0) := by
  intro σ x1 x2 x3 x4 hm
  unfold t_X12_send_87 at hm
  unfold m_X12_send_87
  exact hk34 _ _ _ _ _ hm
def t_X12_send_34  : Nat → r_S → Int32 → Int32 → Int32 → Int32 → Option (Int32 × r_S)
  | 0, _, _, _, _, _ => none
  | n + 1, σ, x1, x2, x3, x4 =>
    (t_ai 106 (r_A σ 20) ((3 : Int32))).bind fun v12 =>
    if v12 ≤ x4 then
      (t_si 106 σ 20 (((12 : Int32) + ((5 : Int32) * x1))) (((1 : Int32) - x2))).bind fun σ14 =>
      (t_si 106 σ14 20 ((((12 : Int32) + ((5 : Int32) * x1)) + (1 : Int32))) x3).bind fun σ16 =>
      some (((1 : Int32) - x2), σ16)
    else
      (t_X12_sideOf σ x4).bind fun r17 =>
      if r17 = x2 then
        (t_X12_placeOf σ x4).bind fun r19 =>
        (t_X12_placeOf σ x1).bind fun r21 =>
        if r19 ≤ r21 then
          t_X12_send_87 (t_X12_send_34 n) σ x1 x2 x3 x4
        else
          (t_ai 106 (r_A σ 20) ((((12 : Int32) + ((5 : Int32) * x4)) + (1 : Int32)))).bind fun v24 =>
          (t_si 106 σ 20 ((((12 : Int32) + ((5 : Int32) * x4)) + (1 : Int32))) ((v24 - (1 : Int32)))).bind fun σ25 =>
          t_X12_send_87 (t_X12_send_34 n) σ25 x1 x2 x3 x4
      else
        t_X12_send_87 (t_X12_send_34 n) σ x1 x2 x3 x4
set_option maxRecDepth 20000 in
theorem l_X12_send_34 (b : Nat) (h0 : q_H) {r : Int32} {s' : r_S} : ∀ (n : Nat) (σ : r_S) (x1 : Int32) (x2 : Int32) (x3 : Int32) (x4 : Int32), t_X12_send_34 n σ x1 x2 x3 x4 = some (r, s') → m_X12_send_34 n (r_H b σ h0) b x1 x2 x3 x4 = some (r, r_H b s' h0) := by
  intro n
  induction n with
  | zero => intro σ x1 x2 x3 x4 hm; cases hm
  | succ n ih =>
    intro σ x1 x2 x3 x4 hm
    unfold t_X12_send_34 at hm
    unfold m_X12_send_34
    refine r_gn_20 ?_
    refine r_ai_20 hm (fun v12 hm => ?_)
    refine r_if _ _ hm (fun _ hm => ?_) (fun _ hm => ?_)
    · refine r_gn_20 ?_
      refine r_as_20 hm (fun σ14 hm => ?_)
      refine r_gn_20 ?_
      refine r_as_20 hm (fun σ16 hm => ?_)
      exact r_retS hm
    · refine r_cP (fun r9 e9 => l_X12_sideOf _ _ _ _ e9) hm (fun r17 hm => ?_)
      refine r_if _ _ hm (fun _ hm => ?_) (fun _ hm => ?_)
      · refine r_cP (fun r9 e9 => l_X12_placeOf _ _ _ _ e9) hm (fun r19 hm => ?_)
        refine r_cP (fun r9 e9 => l_X12_placeOf _ _ _ _ e9) hm (fun r21 hm => ?_)
        refine r_if _ _ hm (fun _ hm => ?_) (fun _ hm => ?_)
        · exact l_X12_send_87 _ _ ih _ _ _ _ _ hm
        · refine r_gn_20 ?_
          refine r_ai_20 hm (fun v24 hm => ?_)
          refine r_as_20 hm (fun σ25 hm => ?_)
          exact l_X12_send_87 _ _ ih _ _ _ _ _ hm
      · exact l_X12_send_87 _ _ ih _ _ _ _ _ hm
def t_X12_send (σ : r_S) (a1 : Int32) : Option (Int32 × r_S) :=
  (t_X12_isPuller σ a1).bind fun r1 =>
  if r1 = 0 then
    some ((-1 : Int32), σ)
  else
    (t_X12_keepsAct σ).bind fun σ4 =>
    (t_X12_sideOf σ4 a1).bind fun r5 =>
    (t_X12_onesOn σ4 (((1 : Int32) - r5))).bind fun r7 =>
    (m_X12_bits r7).bind fun r9 =>
    t_X12_send_34 q_fu σ4 a1 r5 r9 ((0 : Int32))
set_option maxRecDepth 20000 in
theorem l_X12_send (b : Nat) (h0 : q_H) (σ : r_S) (a1 : Int32) {r : Int32} {s' : r_S} (hm : t_X12_send σ a1 = some (r, s')) : m_X12_send (r_H b σ h0) b a1 = some (r, r_H b s' h0) := by
  unfold t_X12_send at hm
  unfold m_X12_send
  refine r_cP (fun r9 e9 => l_X12_isPuller _ _ _ _ e9) hm (fun r1 hm => ?_)
  refine r_if _ _ hm (fun _ hm => ?_) (fun _ hm => ?_)
  · exact r_retS hm
  · refine r_cV (fun s9 e9 => l_X12_keepsAct _ _ _  e9) hm (fun σ4 hm => ?_)
    refine r_cP (fun r9 e9 => l_X12_sideOf _ _ _ _ e9) hm (fun r5 hm => ?_)
    refine r_cP (fun r9 e9 => l_X12_onesOn _ _ _ _ e9) hm (fun r7 hm => ?_)
    refine r_bd hm (fun r9 hm => ?_)
    exact l_X12_send_34 _ _ _ _ _ _ _ _ hm
def t_X12_front_79 (k30 : r_S → Int32 → Int32 → Int32 → Option (Int32 × r_S)) (σ : r_S) (x1 : Int32) (x2 : Int32) (x3 : Int32) : Option (Int32 × r_S) :=
  k30 σ x1 x2 ((x3 + (1 : Int32)))
set_option maxRecDepth 20000 in
theorem l_X12_front_79 (b : Nat) (h0 : q_H) {r : Int32} {s' : r_S} {k30 : r_S → Int32 → Int32 → Int32 → Option (Int32 × r_S)} {gk30 : q_H → Nat → Int32 → Int32 → Int32 → Option (Int32 × q_H)} (hk30 : ∀ (σ : r_S) (x1 : Int32) (x2 : Int32) (x3 : Int32), k30 σ x1 x2 x3 = some (r, s') → gk30 (r_H b σ h0) b x1 x2 x3 = some (r, r_H b s' h0)) : ∀ (σ : r_S) (x1 : Int32) (x2 : Int32) (x3 : Int32), t_X12_front_79 k30 σ x1 x2 x3 = some (r, s') → m_X12_front_79 gk30 (r_H b σ h0) b x1 x2 x3 = some (r, r_H b s' h0) := by
  intro σ x1 x2 x3 hm
  unfold t_X12_front_79 at hm
  unfold m_X12_front_79
  exact hk30 _ _ _ _ hm
def t_X12_front_30  : Nat → r_S → Int32 → Int32 → Int32 → Option (Int32 × r_S)
  | 0, _, _, _, _ => none
  | n + 1, σ, x1, x2, x3 =>
    (t_ai 106 (r_A σ 20) ((3 : Int32))).bind fun v10 =>
    if v10 ≤ x3 then
      (t_si 106 σ 20 ((((12 : Int32) + ((5 : Int32) * x1)) + (1 : Int32))) ((0 : Int32))).bind fun σ12 =>
      some (x2, σ12)
    else
      (t_X12_sideOf σ x3).bind fun r13 =>
      (t_X12_sideOf σ x1).bind fun r15 =>
      if r13 = r15 then
        (t_X12_placeOf σ x3).bind fun r17 =>
        if x2 ≤ r17 then
          t_X12_front_79 (t_X12_front_30 n) σ x1 x2 x3
        else
          (t_ai 106 (r_A σ 20) ((((12 : Int32) + ((5 : Int32) * x3)) + (1 : Int32)))).bind fun v20 =>
          (t_si 106 σ 20 ((((12 : Int32) + ((5 : Int32) * x3)) + (1 : Int32))) ((v20 + (1 : Int32)))).bind fun σ21 =>
          t_X12_front_79 (t_X12_front_30 n) σ21 x1 x2 x3
      else
        t_X12_front_79 (t_X12_front_30 n) σ x1 x2 x3
set_option maxRecDepth 20000 in
theorem l_X12_front_30 (b : Nat) (h0 : q_H) {r : Int32} {s' : r_S} : ∀ (n : Nat) (σ : r_S) (x1 : Int32) (x2 : Int32) (x3 : Int32), t_X12_front_30 n σ x1 x2 x3 = some (r, s') → m_X12_front_30 n (r_H b σ h0) b x1 x2 x3 = some (r, r_H b s' h0) := by
  intro n
  induction n with
  | zero => intro σ x1 x2 x3 hm; cases hm
  | succ n ih =>
    intro σ x1 x2 x3 hm
    unfold t_X12_front_30 at hm
    unfold m_X12_front_30
    refine r_gn_20 ?_
    refine r_ai_20 hm (fun v10 hm => ?_)
    refine r_if _ _ hm (fun _ hm => ?_) (fun _ hm => ?_)
    · refine r_gn_20 ?_
      refine r_as_20 hm (fun σ12 hm => ?_)
      exact r_retS hm
    · refine r_cP (fun r9 e9 => l_X12_sideOf _ _ _ _ e9) hm (fun r13 hm => ?_)
      refine r_cP (fun r9 e9 => l_X12_sideOf _ _ _ _ e9) hm (fun r15 hm => ?_)
      refine r_if _ _ hm (fun _ hm => ?_) (fun _ hm => ?_)
      · refine r_cP (fun r9 e9 => l_X12_placeOf _ _ _ _ e9) hm (fun r17 hm => ?_)
        refine r_if _ _ hm (fun _ hm => ?_) (fun _ hm => ?_)
        · exact l_X12_front_79 _ _ ih _ _ _ _ hm
        · refine r_gn_20 ?_
          refine r_ai_20 hm (fun v20 hm => ?_)
          refine r_as_20 hm (fun σ21 hm => ?_)
          exact l_X12_front_79 _ _ ih _ _ _ _ hm
      · exact l_X12_front_79 _ _ ih _ _ _ _ hm
def t_X12_front (σ : r_S) (a1 : Int32) : Option (Int32 × r_S) :=
  (t_X12_isPuller σ a1).bind fun r1 =>
  if r1 = 0 then
    some ((-1 : Int32), σ)
  else
    (t_X12_placeOf σ a1).bind fun r3 =>
    if r3 = 0 then
      some ((-1 : Int32), σ)
    else
      (t_X12_keepsAct σ).bind fun σ6 =>
      (t_X12_placeOf σ6 a1).bind fun r7 =>
      t_X12_front_30 q_fu σ6 a1 r7 ((0 : Int32))
set_option maxRecDepth 20000 in
theorem l_X12_front (b : Nat) (h0 : q_H) (σ : r_S) (a1 : Int32) {r : Int32} {s' : r_S} (hm : t_X12_front σ a1 = some (r, s')) : m_X12_front (r_H b σ h0) b a1 = some (r, r_H b s' h0) := by
  unfold t_X12_front at hm
  unfold m_X12_front
  refine r_cP (fun r9 e9 => l_X12_isPuller _ _ _ _ e9) hm (fun r1 hm => ?_)
  refine r_if _ _ hm (fun _ hm => ?_) (fun _ hm => ?_)
  · exact r_retS hm
  · refine r_cP (fun r9 e9 => l_X12_placeOf _ _ _ _ e9) hm (fun r3 hm => ?_)
    refine r_if _ _ hm (fun _ hm => ?_) (fun _ hm => ?_)
    · exact r_retS hm
    · refine r_cV (fun s9 e9 => l_X12_keepsAct _ _ _  e9) hm (fun σ6 hm => ?_)
      refine r_cP (fun r9 e9 => l_X12_placeOf _ _ _ _ e9) hm (fun r7 hm => ?_)
      exact l_X12_front_30 _ _ _ _ _ _ _ hm
def t_X12_breath (σ : r_S) (a1 : Int32) (a2 : Int32) : Option (Int32 × r_S) :=
  (t_X12_isPuller σ a1).bind fun r1 =>
  if r1 = 0 then
    some ((-1 : Int32), σ)
  else
    (m_X12_in a2.toInt64 ((1 : Int64)) ((9 : Int64))).bind fun r3 =>
    if r3 = 0 then
      some ((-1 : Int32), σ)
    else
      (t_X12_keepsAct σ).bind fun σ6 =>
      (t_X12_windOf σ6 a1).bind fun r8 =>
      (m_X12_within ((r8 + a2)) ((0 : Int32)) ((60 : Int32))).bind fun r10 =>
      (t_si 106 σ6 20 ((((12 : Int32) + ((5 : Int32) * a1)) + (2 : Int32))) r10).bind fun σ12 =>
      (t_X12_windOf σ12 a1).bind fun r13 =>
      some (r13, σ12)
set_option maxRecDepth 20000 in
theorem l_X12_breath (b : Nat) (h0 : q_H) (σ : r_S) (a1 : Int32) (a2 : Int32) {r : Int32} {s' : r_S} (hm : t_X12_breath σ a1 a2 = some (r, s')) : m_X12_breath (r_H b σ h0) b a1 a2 = some (r, r_H b s' h0) := by
  unfold t_X12_breath at hm
  unfold m_X12_breath
  refine r_cP (fun r9 e9 => l_X12_isPuller _ _ _ _ e9) hm (fun r1 hm => ?_)
  refine r_if _ _ hm (fun _ hm => ?_) (fun _ hm => ?_)
  · exact r_retS hm
  · refine r_bd hm (fun r3 hm => ?_)
    refine r_if _ _ hm (fun _ hm => ?_) (fun _ hm => ?_)
    · exact r_retS hm
    · refine r_cV (fun s9 e9 => l_X12_keepsAct _ _ _  e9) hm (fun σ6 hm => ?_)
      refine r_gn_20 ?_
      refine r_cP (fun r9 e9 => l_X12_windOf _ _ _ _ e9) hm (fun r8 hm => ?_)
      refine r_bd hm (fun r10 hm => ?_)
      refine r_as_20 hm (fun σ12 hm => ?_)
      refine r_cP (fun r9 e9 => l_X12_windOf _ _ _ _ e9) hm (fun r13 hm => ?_)
      exact r_retS hm
def t_X12_set (σ : r_S) (a1 : Int32) : Option (Int32 × r_S) :=
  (t_X12_isRope σ).bind fun r1 =>
  if r1 = 0 then
    some ((-1 : Int32), σ)
  else
    (t_ai 106 (r_A σ 20) ((1 : Int32))).bind fun v4 =>
    (t_ai 106 (r_A σ 20) ((1 : Int32))).bind fun v6 =>
    (m_X12_in (((a1 - (100 : Int32))).toInt64) ((((1 : Int32) - v4)).toInt64) (((v6 - (1 : Int32))).toInt64)).bind fun r7 =>
    if r7 = 0 then
      some ((-1 : Int32), σ)
    else
      (t_ai 106 (r_A σ 20) ((11 : Int32))).bind fun v10 =>
      if (a1 - (100 : Int32)) = v10 then
        some ((-1 : Int32), σ)
      else
        (t_X12_keepsAct σ).bind fun σ12 =>
        (t_X12_ribbon σ12).bind fun r13 =>
        (t_si 106 σ12 20 ((11 : Int32)) ((a1 - (100 : Int32)))).bind fun σ16 =>
        some (r13, σ16)
set_option maxRecDepth 20000 in
theorem l_X12_set (b : Nat) (h0 : q_H) (σ : r_S) (a1 : Int32) {r : Int32} {s' : r_S} (hm : t_X12_set σ a1 = some (r, s')) : m_X12_set (r_H b σ h0) b a1 = some (r, r_H b s' h0) := by
  unfold t_X12_set at hm
  unfold m_X12_set
  refine r_cP (fun r9 e9 => l_X12_isRope _ _ _  e9) hm (fun r1 hm => ?_)
  refine r_if _ _ hm (fun _ hm => ?_) (fun _ hm => ?_)
  · exact r_retS hm
  · refine r_gn_20 ?_
    refine r_ai_20 hm (fun v4 hm => ?_)
    refine r_gn_20 ?_
    refine r_ai_20 hm (fun v6 hm => ?_)
    refine r_bd hm (fun r7 hm => ?_)
    refine r_if _ _ hm (fun _ hm => ?_) (fun _ hm => ?_)
    · exact r_retS hm
    · refine r_gn_20 ?_
      refine r_ai_20 hm (fun v10 hm => ?_)
      refine r_if _ _ hm (fun _ hm => ?_) (fun _ hm => ?_)
      · exact r_retS hm
      · refine r_cV (fun s9 e9 => l_X12_keepsAct _ _ _  e9) hm (fun σ12 hm => ?_)
        refine r_cP (fun r9 e9 => l_X12_ribbon _ _ _  e9) hm (fun r13 hm => ?_)
        refine r_gn_20 ?_
        refine r_as_20 hm (fun σ16 hm => ?_)
        exact r_retS hm
def t_X12_strongOf_36 (k4 : r_S → Int32 → Int32 → Int32 → Option Int32) (σ0 : r_S) (x1 : Int32) (x3 : Int32) (s0 : Int32) (s1 : Int32) : Option Int32 :=
  k4 σ0 x1 ((s1 + s0)) ((x3 + (1 : Int32)))
set_option maxRecDepth 20000 in
theorem l_X12_strongOf_36 (b : Nat) (h0 : q_H) {r : Int32} {k4 : r_S → Int32 → Int32 → Int32 → Option Int32} {gk4 : q_H → Nat → Int32 → Int32 → Int32 → Option Int32} (hk4 : ∀ (σ0 : r_S) (x1 : Int32) (x2 : Int32) (x3 : Int32), k4 σ0 x1 x2 x3 = some r → gk4 (r_H b σ0 h0) b x1 x2 x3 = some r) : ∀ (σ0 : r_S) (x1 : Int32) (x3 : Int32) (s0 : Int32) (s1 : Int32), t_X12_strongOf_36 k4 σ0 x1 x3 s0 s1 = some r → m_X12_strongOf_36 gk4 (r_H b σ0 h0) b x1 x3 s0 s1 = some r := by
  intro σ0 x1 x3 s0 s1 hm
  unfold t_X12_strongOf_36 at hm
  unfold m_X12_strongOf_36
  exact hk4 _ _ _ _ hm
def t_X12_strongOf_4  : Nat → r_S → Int32 → Int32 → Int32 → Option Int32
  | 0, _, _, _, _ => none
  | n + 1, σ0, x1, x2, x3 =>
    (t_ai 106 (r_A σ0 20) ((3 : Int32))).bind fun v2 =>
    if v2 ≤ x3 then
      some x2
    else
      (m_X12_isOf x1 x3).bind fun r3 =>
      if r3 = 0 then
        t_X12_strongOf_36 (t_X12_strongOf_4 n) σ0 x1 x3 ((0 : Int32)) x2
      else
        (t_ai 106 (r_A σ0 20) (((52 : Int32) + x3))).bind fun v6 =>
        t_X12_strongOf_36 (t_X12_strongOf_4 n) σ0 x1 x3 v6 x2
set_option maxRecDepth 20000 in
theorem l_X12_strongOf_4 (b : Nat) (h0 : q_H) {r : Int32} : ∀ (n : Nat) (σ0 : r_S) (x1 : Int32) (x2 : Int32) (x3 : Int32), t_X12_strongOf_4 n σ0 x1 x2 x3 = some r → m_X12_strongOf_4 n (r_H b σ0 h0) b x1 x2 x3 = some r := by
  intro n
  induction n with
  | zero => intro σ0 x1 x2 x3 hm; cases hm
  | succ n ih =>
    intro σ0 x1 x2 x3 hm
    unfold t_X12_strongOf_4 at hm
    unfold m_X12_strongOf_4
    refine r_gn_20 ?_
    refine r_ai_20 hm (fun v2 hm => ?_)
    refine r_if _ _ hm (fun _ hm => ?_) (fun _ hm => ?_)
    · exact hm
    · refine r_bd hm (fun r3 hm => ?_)
      refine r_if _ _ hm (fun _ hm => ?_) (fun _ hm => ?_)
      · exact l_X12_strongOf_36 _ _ ih _ _ _ _ _ hm
      · refine r_gn_20 ?_
        refine r_ai_20 hm (fun v6 hm => ?_)
        exact l_X12_strongOf_36 _ _ ih _ _ _ _ _ hm
def t_X12_strongOf (σ0 : r_S) (a1 : Int32) : Option Int32 :=
  t_X12_strongOf_4 q_fu σ0 a1 ((0 : Int32)) ((0 : Int32))
set_option maxRecDepth 20000 in
theorem l_X12_strongOf (b : Nat) (h0 : q_H) (σ0 : r_S) (a1 : Int32) {r : Int32} (hm : t_X12_strongOf σ0 a1 = some r) : m_X12_strongOf (r_H b σ0 h0) b a1 = some r := by
  unfold t_X12_strongOf at hm
  unfold m_X12_strongOf
  exact l_X12_strongOf_4 _ _ _ _ _ _ _ hm
def t_X12_everybody (σ0 : r_S) : Option Int32 :=
  (t_ai 106 (r_A σ0 20) ((3 : Int32))).bind fun v2 =>
  some ((((1 : Int32) <<< (v2 &&& 31)) - (1 : Int32)))
set_option maxRecDepth 20000 in
theorem l_X12_everybody (b : Nat) (h0 : q_H) (σ0 : r_S)  {r : Int32} (hm : t_X12_everybody σ0 = some r) : m_X12_everybody (r_H b σ0 h0) b = some r := by
  unfold t_X12_everybody at hm
  unfold m_X12_everybody
  refine r_gn_20 ?_
  refine r_ai_20 hm (fun v2 hm => ?_)
  exact hm
def t_X12_outweighs (σ0 : r_S) (a1 : Int32) : Option Int32 :=
  (t_X12_strongOf σ0 a1).bind fun r1 =>
  (t_X12_everybody σ0).bind fun r3 =>
  (t_X12_strongOf σ0 ((r3 &&& (a1 ^^^ (-1 : Int32))))).bind fun r5 =>
  if r1 ≤ r5 then
    some ((0 : Int32))
  else
    some ((1 : Int32))
set_option maxRecDepth 20000 in
theorem l_X12_outweighs (b : Nat) (h0 : q_H) (σ0 : r_S) (a1 : Int32) {r : Int32} (hm : t_X12_outweighs σ0 a1 = some r) : m_X12_outweighs (r_H b σ0 h0) b a1 = some r := by
  unfold t_X12_outweighs at hm
  unfold m_X12_outweighs
  refine r_cP (fun r9 e9 => l_X12_strongOf _ _ _ _ e9) hm (fun r1 hm => ?_)
  refine r_cP (fun r9 e9 => l_X12_everybody _ _ _  e9) hm (fun r3 hm => ?_)
  refine r_cP (fun r9 e9 => l_X12_strongOf _ _ _ _ e9) hm (fun r5 hm => ?_)
  refine r_if _ _ hm (fun _ hm => ?_) (fun _ hm => ?_)
  · exact hm
  · exact hm
def t_X12_apart (σ0 : r_S) (a1 : Int32) : Option Int32 :=
  (t_X12_strongOf σ0 a1).bind fun r1 =>
  (t_X12_everybody σ0).bind fun r3 =>
  (t_X12_strongOf σ0 ((r3 &&& (a1 ^^^ (-1 : Int32))))).bind fun r5 =>
  if 0 ≤ (r1 - r5) then
    some ((r1 - r5))
  else
    some ((0 - (r1 - r5)))
set_option maxRecDepth 20000 in
theorem l_X12_apart (b : Nat) (h0 : q_H) (σ0 : r_S) (a1 : Int32) {r : Int32} (hm : t_X12_apart σ0 a1 = some r) : m_X12_apart (r_H b σ0 h0) b a1 = some r := by
  unfold t_X12_apart at hm
  unfold m_X12_apart
  refine r_cP (fun r9 e9 => l_X12_strongOf _ _ _ _ e9) hm (fun r1 hm => ?_)
  refine r_cP (fun r9 e9 => l_X12_everybody _ _ _  e9) hm (fun r3 hm => ?_)
  refine r_cP (fun r9 e9 => l_X12_strongOf _ _ _ _ e9) hm (fun r5 hm => ?_)
  refine r_if _ _ hm (fun _ hm => ?_) (fun _ hm => ?_)
  · exact hm
  · exact hm
def t_X12_fair_46 (k23 : r_S → Int32 → Int32 → Int32 → Option Int32) (σ0 : r_S) (x1 : Int32) (x2 : Int32) (x3 : Int32) : Option Int32 :=
  k23 σ0 x1 x2 ((x3 + (1 : Int32)))
set_option maxRecDepth 20000 in
theorem l_X12_fair_46 (b : Nat) (h0 : q_H) {r : Int32} {k23 : r_S → Int32 → Int32 → Int32 → Option Int32} {gk23 : q_H → Nat → Int32 → Int32 → Int32 → Option Int32} (hk23 : ∀ (σ0 : r_S) (x1 : Int32) (x2 : Int32) (x3 : Int32), k23 σ0 x1 x2 x3 = some r → gk23 (r_H b σ0 h0) b x1 x2 x3 = some r) : ∀ (σ0 : r_S) (x1 : Int32) (x2 : Int32) (x3 : Int32), t_X12_fair_46 k23 σ0 x1 x2 x3 = some r → m_X12_fair_46 gk23 (r_H b σ0 h0) b x1 x2 x3 = some r := by
  intro σ0 x1 x2 x3 hm
  unfold t_X12_fair_46 at hm
  unfold m_X12_fair_46
  exact hk23 _ _ _ _ hm
def t_X12_fair_23  : Nat → r_S → Int32 → Int32 → Int32 → Option Int32
  | 0, _, _, _, _ => none
  | n + 1, σ0, x1, x2, x3 =>
    (t_X12_everybody σ0).bind fun r5 =>
    if r5 < x3 then
      if x1 = 0 then
        (t_X12_apart σ0 x2).bind fun r7 =>
        some r7
      else
        some x2
    else
      (t_X12_apart σ0 x3).bind fun r9 =>
      (t_X12_apart σ0 x2).bind fun r11 =>
      if r11 ≤ r9 then
        t_X12_fair_46 (t_X12_fair_23 n) σ0 x1 x2 x3
      else
        t_X12_fair_46 (t_X12_fair_23 n) σ0 x1 x3 x3
set_option maxRecDepth 20000 in
theorem l_X12_fair_23 (b : Nat) (h0 : q_H) {r : Int32} : ∀ (n : Nat) (σ0 : r_S) (x1 : Int32) (x2 : Int32) (x3 : Int32), t_X12_fair_23 n σ0 x1 x2 x3 = some r → m_X12_fair_23 n (r_H b σ0 h0) b x1 x2 x3 = some r := by
  intro n
  induction n with
  | zero => intro σ0 x1 x2 x3 hm; cases hm
  | succ n ih =>
    intro σ0 x1 x2 x3 hm
    unfold t_X12_fair_23 at hm
    unfold m_X12_fair_23
    refine r_cP (fun r9 e9 => l_X12_everybody _ _ _  e9) hm (fun r5 hm => ?_)
    refine r_if _ _ hm (fun _ hm => ?_) (fun _ hm => ?_)
    · refine r_if _ _ hm (fun _ hm => ?_) (fun _ hm => ?_)
      · refine r_cP (fun r9 e9 => l_X12_apart _ _ _ _ e9) hm (fun r7 hm => ?_)
        exact hm
      · exact hm
    · refine r_cP (fun r9 e9 => l_X12_apart _ _ _ _ e9) hm (fun r9 hm => ?_)
      refine r_cP (fun r9 e9 => l_X12_apart _ _ _ _ e9) hm (fun r11 hm => ?_)
      refine r_if _ _ hm (fun _ hm => ?_) (fun _ hm => ?_)
      · exact l_X12_fair_46 _ _ ih _ _ _ _ hm
      · exact l_X12_fair_46 _ _ ih _ _ _ _ hm
def t_X12_fair (σ0 : r_S) (a1 : Int32) : Option Int32 :=
  (t_X12_isRope σ0).bind fun r1 =>
  if r1 = 0 then
    some ((-1 : Int32))
  else
    (m_X12_in a1.toInt64 ((0 : Int64)) ((1 : Int64))).bind fun r3 =>
    if r3 = 0 then
      some ((-1 : Int32))
    else
      t_X12_fair_23 q_fu σ0 a1 ((0 : Int32)) ((1 : Int32))
set_option maxRecDepth 20000 in
theorem l_X12_fair (b : Nat) (h0 : q_H) (σ0 : r_S) (a1 : Int32) {r : Int32} (hm : t_X12_fair σ0 a1 = some r) : m_X12_fair (r_H b σ0 h0) b a1 = some r := by
  unfold t_X12_fair at hm
  unfold m_X12_fair
  refine r_cP (fun r9 e9 => l_X12_isRope _ _ _  e9) hm (fun r1 hm => ?_)
  refine r_if _ _ hm (fun _ hm => ?_) (fun _ hm => ?_)
  · exact hm
  · refine r_bd hm (fun r3 hm => ?_)
    refine r_if _ _ hm (fun _ hm => ?_) (fun _ hm => ?_)
    · exact hm
    · exact l_X12_fair_23 _ _ _ _ _ _ _ hm
def t_X12_isSwing (σ0 : r_S) (a1 : Int32) (a2 : Int32) : Option Int32 :=
  (m_X12_isOf a1 a2).bind fun r1 =>
  if r1 = 0 then
    (t_X12_outweighs σ0 a1).bind fun r3 =>
    if r3 = 0 then
      (t_X12_outweighs σ0 ((a1 ||| ((1 : Int32) <<< (a2 &&& 31))))).bind fun r5 =>
      if r5 = 0 then
        some ((0 : Int32))
      else
        some ((1 : Int32))
    else
      some ((0 : Int32))
  else
    some ((0 : Int32))
set_option maxRecDepth 20000 in
theorem l_X12_isSwing (b : Nat) (h0 : q_H) (σ0 : r_S) (a1 : Int32) (a2 : Int32) {r : Int32} (hm : t_X12_isSwing σ0 a1 a2 = some r) : m_X12_isSwing (r_H b σ0 h0) b a1 a2 = some r := by
  unfold t_X12_isSwing at hm
  unfold m_X12_isSwing
  refine r_bd hm (fun r1 hm => ?_)
  refine r_if _ _ hm (fun _ hm => ?_) (fun _ hm => ?_)
  · refine r_cP (fun r9 e9 => l_X12_outweighs _ _ _ _ e9) hm (fun r3 hm => ?_)
    refine r_if _ _ hm (fun _ hm => ?_) (fun _ hm => ?_)
    · refine r_cP (fun r9 e9 => l_X12_outweighs _ _ _ _ e9) hm (fun r5 hm => ?_)
      refine r_if _ _ hm (fun _ hm => ?_) (fun _ hm => ?_)
      · exact hm
      · exact hm
    · exact hm
  · exact hm
def t_X12_swings_37 (k14 : r_S → Int32 → Int32 → Int32 → Option Int32) (σ0 : r_S) (x1 : Int32) (x3 : Int32) (s0 : Int32) (s1 : Int32) : Option Int32 :=
  k14 σ0 x1 ((s1 + s0)) ((x3 + (1 : Int32)))
set_option maxRecDepth 20000 in
theorem l_X12_swings_37 (b : Nat) (h0 : q_H) {r : Int32} {k14 : r_S → Int32 → Int32 → Int32 → Option Int32} {gk14 : q_H → Nat → Int32 → Int32 → Int32 → Option Int32} (hk14 : ∀ (σ0 : r_S) (x1 : Int32) (x2 : Int32) (x3 : Int32), k14 σ0 x1 x2 x3 = some r → gk14 (r_H b σ0 h0) b x1 x2 x3 = some r) : ∀ (σ0 : r_S) (x1 : Int32) (x3 : Int32) (s0 : Int32) (s1 : Int32), t_X12_swings_37 k14 σ0 x1 x3 s0 s1 = some r → m_X12_swings_37 gk14 (r_H b σ0 h0) b x1 x3 s0 s1 = some r := by
  intro σ0 x1 x3 s0 s1 hm
  unfold t_X12_swings_37 at hm
  unfold m_X12_swings_37
  exact hk14 _ _ _ _ hm
def t_X12_swings_14  : Nat → r_S → Int32 → Int32 → Int32 → Option Int32
  | 0, _, _, _, _ => none
  | n + 1, σ0, x1, x2, x3 =>
    (t_X12_everybody σ0).bind fun r3 =>
    if r3 < x3 then
      some x2
    else
      (t_X12_isSwing σ0 x3 x1).bind fun r5 =>
      if r5 = 0 then
        t_X12_swings_37 (t_X12_swings_14 n) σ0 x1 x3 ((0 : Int32)) x2
      else
        t_X12_swings_37 (t_X12_swings_14 n) σ0 x1 x3 ((1 : Int32)) x2
set_option maxRecDepth 20000 in
theorem l_X12_swings_14 (b : Nat) (h0 : q_H) {r : Int32} : ∀ (n : Nat) (σ0 : r_S) (x1 : Int32) (x2 : Int32) (x3 : Int32), t_X12_swings_14 n σ0 x1 x2 x3 = some r → m_X12_swings_14 n (r_H b σ0 h0) b x1 x2 x3 = some r := by
  intro n
  induction n with
  | zero => intro σ0 x1 x2 x3 hm; cases hm
  | succ n ih =>
    intro σ0 x1 x2 x3 hm
    unfold t_X12_swings_14 at hm
    unfold m_X12_swings_14
    refine r_cP (fun r9 e9 => l_X12_everybody _ _ _  e9) hm (fun r3 hm => ?_)
    refine r_if _ _ hm (fun _ hm => ?_) (fun _ hm => ?_)
    · exact hm
    · refine r_cP (fun r9 e9 => l_X12_isSwing _ _ _ _ _ e9) hm (fun r5 hm => ?_)
      refine r_if _ _ hm (fun _ hm => ?_) (fun _ hm => ?_)
      · exact l_X12_swings_37 _ _ ih _ _ _ _ _ hm
      · exact l_X12_swings_37 _ _ ih _ _ _ _ _ hm
def t_X12_swings (σ0 : r_S) (a1 : Int32) : Option Int32 :=
  (t_X12_isPuller σ0 a1).bind fun r1 =>
  if r1 = 0 then
    some ((-1 : Int32))
  else
    t_X12_swings_14 q_fu σ0 a1 ((0 : Int32)) ((0 : Int32))
set_option maxRecDepth 20000 in
theorem l_X12_swings (b : Nat) (h0 : q_H) (σ0 : r_S) (a1 : Int32) {r : Int32} (hm : t_X12_swings σ0 a1 = some r) : m_X12_swings (r_H b σ0 h0) b a1 = some r := by
  unfold t_X12_swings at hm
  unfold m_X12_swings
  refine r_cP (fun r9 e9 => l_X12_isPuller _ _ _ _ e9) hm (fun r1 hm => ?_)
  refine r_if _ _ hm (fun _ hm => ?_) (fun _ hm => ?_)
  · exact hm
  · exact l_X12_swings_14 _ _ _ _ _ _ _ hm
def t_X12_shares_58 (k14 : r_S → Int32 → Int32 → Int32 → Option Int32) (σ0 : r_S) (x1 : Int32) (x2 : Int32) (x3 : Int32) : Option Int32 :=
  k14 σ0 x1 x2 ((x3 + (1 : Int32)))
set_option maxRecDepth 20000 in
theorem l_X12_shares_58 (b : Nat) (h0 : q_H) {r : Int32} {k14 : r_S → Int32 → Int32 → Int32 → Option Int32} {gk14 : q_H → Nat → Int32 → Int32 → Int32 → Option Int32} (hk14 : ∀ (σ0 : r_S) (x1 : Int32) (x2 : Int32) (x3 : Int32), k14 σ0 x1 x2 x3 = some r → gk14 (r_H b σ0 h0) b x1 x2 x3 = some r) : ∀ (σ0 : r_S) (x1 : Int32) (x2 : Int32) (x3 : Int32), t_X12_shares_58 k14 σ0 x1 x2 x3 = some r → m_X12_shares_58 gk14 (r_H b σ0 h0) b x1 x2 x3 = some r := by
  intro σ0 x1 x2 x3 hm
  unfold t_X12_shares_58 at hm
  unfold m_X12_shares_58
  exact hk14 _ _ _ _ hm
def t_X12_shares_14  : Nat → r_S → Int32 → Int32 → Int32 → Option Int32
  | 0, _, _, _, _ => none
  | n + 1, σ0, x1, x2, x3 =>
    (t_X12_everybody σ0).bind fun r3 =>
    if r3 < x3 then
      some x2
    else
      (t_X12_isSwing σ0 x3 x1).bind fun r5 =>
      if r5 = 0 then
        t_X12_shares_58 (t_X12_shares_14 n) σ0 x1 x2 x3
      else
        (m_X12_bits x3).bind fun r7 =>
        (m_X12_rowsOf r7).bind fun r9 =>
        (t_ai 106 (r_A σ0 20) ((3 : Int32))).bind fun v12 =>
        (m_X12_bits x3).bind fun r13 =>
        (m_X12_rowsOf (((v12 - (1 : Int32)) - r13))).bind fun r15 =>
        t_X12_shares_58 (t_X12_shares_14 n) σ0 x1 ((x2 + (r9 * r15))) x3
set_option maxRecDepth 20000 in
theorem l_X12_shares_14 (b : Nat) (h0 : q_H) {r : Int32} : ∀ (n : Nat) (σ0 : r_S) (x1 : Int32) (x2 : Int32) (x3 : Int32), t_X12_shares_14 n σ0 x1 x2 x3 = some r → m_X12_shares_14 n (r_H b σ0 h0) b x1 x2 x3 = some r := by
  intro n
  induction n with
  | zero => intro σ0 x1 x2 x3 hm; cases hm
  | succ n ih =>
    intro σ0 x1 x2 x3 hm
    unfold t_X12_shares_14 at hm
    unfold m_X12_shares_14
    refine r_cP (fun r9 e9 => l_X12_everybody _ _ _  e9) hm (fun r3 hm => ?_)
    refine r_if _ _ hm (fun _ hm => ?_) (fun _ hm => ?_)
    · exact hm
    · refine r_cP (fun r9 e9 => l_X12_isSwing _ _ _ _ _ e9) hm (fun r5 hm => ?_)
      refine r_if _ _ hm (fun _ hm => ?_) (fun _ hm => ?_)
      · exact l_X12_shares_58 _ _ ih _ _ _ _ hm
      · refine r_bd hm (fun r7 hm => ?_)
        refine r_bd hm (fun r9 hm => ?_)
        refine r_gn_20 ?_
        refine r_ai_20 hm (fun v12 hm => ?_)
        refine r_bd hm (fun r13 hm => ?_)
        refine r_bd hm (fun r15 hm => ?_)
        exact l_X12_shares_58 _ _ ih _ _ _ _ hm
def t_X12_shares (σ0 : r_S) (a1 : Int32) : Option Int32 :=
  (t_X12_isPuller σ0 a1).bind fun r1 =>
  if r1 = 0 then
    some ((-1 : Int32))
  else
    t_X12_shares_14 q_fu σ0 a1 ((0 : Int32)) ((0 : Int32))
set_option maxRecDepth 20000 in
theorem l_X12_shares (b : Nat) (h0 : q_H) (σ0 : r_S) (a1 : Int32) {r : Int32} (hm : t_X12_shares σ0 a1 = some r) : m_X12_shares (r_H b σ0 h0) b a1 = some r := by
  unfold t_X12_shares at hm
  unfold m_X12_shares
  refine r_cP (fun r9 e9 => l_X12_isPuller _ _ _ _ e9) hm (fun r1 hm => ?_)
  refine r_if _ _ hm (fun _ hm => ?_) (fun _ hm => ?_)
  · exact hm
  · exact l_X12_shares_14 _ _ _ _ _ _ _ hm
def t_X12_fewest_56 (k23 : r_S → Int32 → Int32 → Int32 → Option Int32) (σ0 : r_S) (x1 : Int32) (x2 : Int32) (x3 : Int32) : Option Int32 :=
  k23 σ0 x1 x2 ((x3 + (1 : Int32)))
set_option maxRecDepth 20000 in
theorem l_X12_fewest_56 (b : Nat) (h0 : q_H) {r : Int32} {k23 : r_S → Int32 → Int32 → Int32 → Option Int32} {gk23 : q_H → Nat → Int32 → Int32 → Int32 → Option Int32} (hk23 : ∀ (σ0 : r_S) (x1 : Int32) (x2 : Int32) (x3 : Int32), k23 σ0 x1 x2 x3 = some r → gk23 (r_H b σ0 h0) b x1 x2 x3 = some r) : ∀ (σ0 : r_S) (x1 : Int32) (x2 : Int32) (x3 : Int32), t_X12_fewest_56 k23 σ0 x1 x2 x3 = some r → m_X12_fewest_56 gk23 (r_H b σ0 h0) b x1 x2 x3 = some r := by
  intro σ0 x1 x2 x3 hm
  unfold t_X12_fewest_56 at hm
  unfold m_X12_fewest_56
  exact hk23 _ _ _ _ hm
def t_X12_fewest_54 (k23 : r_S → Int32 → Int32 → Int32 → Option Int32) (σ0 : r_S) (x1 : Int32) (x3 : Int32) : Option Int32 :=
  t_X12_fewest_56 k23 σ0 x1 x3 x3
set_option maxRecDepth 20000 in
theorem l_X12_fewest_54 (b : Nat) (h0 : q_H) {r : Int32} {k23 : r_S → Int32 → Int32 → Int32 → Option Int32} {gk23 : q_H → Nat → Int32 → Int32 → Int32 → Option Int32} (hk23 : ∀ (σ0 : r_S) (x1 : Int32) (x2 : Int32) (x3 : Int32), k23 σ0 x1 x2 x3 = some r → gk23 (r_H b σ0 h0) b x1 x2 x3 = some r) : ∀ (σ0 : r_S) (x1 : Int32) (x3 : Int32), t_X12_fewest_54 k23 σ0 x1 x3 = some r → m_X12_fewest_54 gk23 (r_H b σ0 h0) b x1 x3 = some r := by
  intro σ0 x1 x3 hm
  unfold t_X12_fewest_54 at hm
  unfold m_X12_fewest_54
  exact l_X12_fewest_56 _ _ hk23 _ _ _ _ hm
def t_X12_fewest_23  : Nat → r_S → Int32 → Int32 → Int32 → Option Int32
  | 0, _, _, _, _ => none
  | n + 1, σ0, x1, x2, x3 =>
    (t_X12_everybody σ0).bind fun r5 =>
    if r5 < x3 then
      if 0 ≤ x2 then
        if x1 = 0 then
          (m_X12_bits x2).bind fun r7 =>
          some r7
        else
          some x2
      else
        some ((-2 : Int32))
    else
      (t_X12_outweighs σ0 x3).bind fun r9 =>
      if r9 = 0 then
        t_X12_fewest_56 (t_X12_fewest_23 n) σ0 x1 x2 x3
      else
        if x2 < 0 then
          t_X12_fewest_54 (t_X12_fewest_23 n) σ0 x1 x3
        else
          (m_X12_bits x3).bind fun r11 =>
          (m_X12_bits x2).bind fun r13 =>
          if r13 ≤ r11 then
            t_X12_fewest_56 (t_X12_fewest_23 n) σ0 x1 x2 x3
          else
            t_X12_fewest_54 (t_X12_fewest_23 n) σ0 x1 x3
set_option maxRecDepth 20000 in
theorem l_X12_fewest_23 (b : Nat) (h0 : q_H) {r : Int32} : ∀ (n : Nat) (σ0 : r_S) (x1 : Int32) (x2 : Int32) (x3 : Int32), t_X12_fewest_23 n σ0 x1 x2 x3 = some r → m_X12_fewest_23 n (r_H b σ0 h0) b x1 x2 x3 = some r := by
  intro n
  induction n with
  | zero => intro σ0 x1 x2 x3 hm; cases hm
  | succ n ih =>
    intro σ0 x1 x2 x3 hm
    unfold t_X12_fewest_23 at hm
    unfold m_X12_fewest_23
    refine r_cP (fun r9 e9 => l_X12_everybody _ _ _  e9) hm (fun r5 hm => ?_)
    refine r_if _ _ hm (fun _ hm => ?_) (fun _ hm => ?_)
    · refine r_if _ _ hm (fun _ hm => ?_) (fun _ hm => ?_)
      · refine r_if _ _ hm (fun _ hm => ?_) (fun _ hm => ?_)
        · refine r_bd hm (fun r7 hm => ?_)
          exact hm
        · exact hm
      · exact hm
    · refine r_cP (fun r9 e9 => l_X12_outweighs _ _ _ _ e9) hm (fun r9 hm => ?_)
      refine r_if _ _ hm (fun _ hm => ?_) (fun _ hm => ?_)
      · exact l_X12_fewest_56 _ _ ih _ _ _ _ hm
      · refine r_if _ _ hm (fun _ hm => ?_) (fun _ hm => ?_)
        · exact l_X12_fewest_54 _ _ ih _ _ _ hm
        · refine r_bd hm (fun r11 hm => ?_)
          refine r_bd hm (fun r13 hm => ?_)
          refine r_if _ _ hm (fun _ hm => ?_) (fun _ hm => ?_)
          · exact l_X12_fewest_56 _ _ ih _ _ _ _ hm
          · exact l_X12_fewest_54 _ _ ih _ _ _ hm
def t_X12_fewest (σ0 : r_S) (a1 : Int32) : Option Int32 :=
  (t_X12_isRope σ0).bind fun r1 =>
  if r1 = 0 then
    some ((-1 : Int32))
  else
    (m_X12_in a1.toInt64 ((0 : Int64)) ((1 : Int64))).bind fun r3 =>
    if r3 = 0 then
      some ((-1 : Int32))
    else
      t_X12_fewest_23 q_fu σ0 a1 ((-1 : Int32)) ((0 : Int32))
set_option maxRecDepth 20000 in
theorem l_X12_fewest (b : Nat) (h0 : q_H) (σ0 : r_S) (a1 : Int32) {r : Int32} (hm : t_X12_fewest σ0 a1 = some r) : m_X12_fewest (r_H b σ0 h0) b a1 = some r := by
  unfold t_X12_fewest at hm
  unfold m_X12_fewest
  refine r_cP (fun r9 e9 => l_X12_isRope _ _ _  e9) hm (fun r1 hm => ?_)
  refine r_if _ _ hm (fun _ hm => ?_) (fun _ hm => ?_)
  · exact hm
  · refine r_bd hm (fun r3 hm => ?_)
    refine r_if _ _ hm (fun _ hm => ?_) (fun _ hm => ?_)
    · exact hm
    · exact l_X12_fewest_23 _ _ _ _ _ _ _ hm
def t_X12_needed_48 (k13 : r_S → Int32 → Int32 → Option Int32) (σ0 : r_S) (x2 : Int32) (s0 : Int32) (s1 : Int32) : Option Int32 :=
  k13 σ0 ((s1 ||| s0)) ((x2 + (1 : Int32)))
set_option maxRecDepth 20000 in
theorem l_X12_needed_48 (b : Nat) (h0 : q_H) {r : Int32} {k13 : r_S → Int32 → Int32 → Option Int32} {gk13 : q_H → Nat → Int32 → Int32 → Option Int32} (hk13 : ∀ (σ0 : r_S) (x1 : Int32) (x2 : Int32), k13 σ0 x1 x2 = some r → gk13 (r_H b σ0 h0) b x1 x2 = some r) : ∀ (σ0 : r_S) (x2 : Int32) (s0 : Int32) (s1 : Int32), t_X12_needed_48 k13 σ0 x2 s0 s1 = some r → m_X12_needed_48 gk13 (r_H b σ0 h0) b x2 s0 s1 = some r := by
  intro σ0 x2 s0 s1 hm
  unfold t_X12_needed_48 at hm
  unfold m_X12_needed_48
  exact hk13 _ _ _ hm
def t_X12_needed_13  : Nat → r_S → Int32 → Int32 → Option Int32
  | 0, _, _, _ => none
  | n + 1, σ0, x1, x2 =>
    (t_ai 106 (r_A σ0 20) ((3 : Int32))).bind fun v4 =>
    if v4 ≤ x2 then
      some x1
    else
      (t_X12_everybody σ0).bind fun r5 =>
      (t_X12_outweighs σ0 ((r5 &&& (((1 : Int32) <<< (x2 &&& 31)) ^^^ (-1 : Int32))))).bind fun r7 =>
      if r7 = 0 then
        t_X12_needed_48 (t_X12_needed_13 n) σ0 x2 (((1 : Int32) <<< (x2 &&& 31))) x1
      else
        t_X12_needed_48 (t_X12_needed_13 n) σ0 x2 ((0 : Int32)) x1
set_option maxRecDepth 20000 in
theorem l_X12_needed_13 (b : Nat) (h0 : q_H) {r : Int32} : ∀ (n : Nat) (σ0 : r_S) (x1 : Int32) (x2 : Int32), t_X12_needed_13 n σ0 x1 x2 = some r → m_X12_needed_13 n (r_H b σ0 h0) b x1 x2 = some r := by
  intro n
  induction n with
  | zero => intro σ0 x1 x2 hm; cases hm
  | succ n ih =>
    intro σ0 x1 x2 hm
    unfold t_X12_needed_13 at hm
    unfold m_X12_needed_13
    refine r_gn_20 ?_
    refine r_ai_20 hm (fun v4 hm => ?_)
    refine r_if _ _ hm (fun _ hm => ?_) (fun _ hm => ?_)
    · exact hm
    · refine r_cP (fun r9 e9 => l_X12_everybody _ _ _  e9) hm (fun r5 hm => ?_)
      refine r_cP (fun r9 e9 => l_X12_outweighs _ _ _ _ e9) hm (fun r7 hm => ?_)
      refine r_if _ _ hm (fun _ hm => ?_) (fun _ hm => ?_)
      · exact l_X12_needed_48 _ _ ih _ _ _ _ hm
      · exact l_X12_needed_48 _ _ ih _ _ _ _ hm
def t_X12_needed (σ0 : r_S) : Option Int32 :=
  (t_X12_isRope σ0).bind fun r1 =>
  if r1 = 0 then
    some ((-1 : Int32))
  else
    t_X12_needed_13 q_fu σ0 ((0 : Int32)) ((0 : Int32))
set_option maxRecDepth 20000 in
theorem l_X12_needed (b : Nat) (h0 : q_H) (σ0 : r_S)  {r : Int32} (hm : t_X12_needed σ0 = some r) : m_X12_needed (r_H b σ0 h0) b = some r := by
  unfold t_X12_needed at hm
  unfold m_X12_needed
  refine r_cP (fun r9 e9 => l_X12_isRope _ _ _  e9) hm (fun r1 hm => ?_)
  refine r_if _ _ hm (fun _ hm => ?_) (fun _ hm => ?_)
  · exact hm
  · exact l_X12_needed_13 _ _ _ _ _ _ hm
def t_X12_keeps_2  : Nat → r_S → Int32 → Option r_S
  | 0, _, _ => none
  | n + 1, σ, x1 =>
    if (42 : Int32) ≤ x1 then
      some σ
    else
      (t_ai 106 (r_A σ 20) (((10 : Int32) + x1))).bind fun v3 =>
      (t_si 42 σ 27 x1 v3).bind fun σ4 =>
      t_X12_keeps_2 n σ4 ((x1 + (1 : Int32)))
set_option maxRecDepth 20000 in
theorem l_X12_keeps_2 (b : Nat) (h0 : q_H) {s' : r_S} : ∀ (n : Nat) (σ : r_S) (x1 : Int32), t_X12_keeps_2 n σ x1 = some s' → m_X12_keeps_2 n (r_H b σ h0) b x1 = some (r_H b s' h0) := by
  intro n
  induction n with
  | zero => intro σ x1 hm; cases hm
  | succ n ih =>
    intro σ x1 hm
    unfold t_X12_keeps_2 at hm
    unfold m_X12_keeps_2
    refine r_if _ _ hm (fun _ hm => ?_) (fun _ hm => ?_)
    · exact r_retV hm
    · refine r_gn_27 ?_
      refine r_gn_20 ?_
      refine r_ai_20 hm (fun v3 hm => ?_)
      refine r_as_27 hm (fun σ4 hm => ?_)
      exact ih _ _ hm
def t_X12_keeps (σ : r_S) : Option r_S :=
  t_X12_keeps_2 q_fu σ ((0 : Int32))
set_option maxRecDepth 20000 in
theorem l_X12_keeps (b : Nat) (h0 : q_H) (σ : r_S)  {s' : r_S} (hm : t_X12_keeps σ = some s') : m_X12_keeps (r_H b σ h0) b = some (r_H b s' h0) := by
  unfold t_X12_keeps at hm
  unfold m_X12_keeps
  exact l_X12_keeps_2 _ _ _ _ _ hm
def t_X12_laysBack_2  : Nat → r_S → Int32 → Option r_S
  | 0, _, _ => none
  | n + 1, σ, x1 =>
    if (42 : Int32) ≤ x1 then
      some σ
    else
      (t_ai 42 (r_A σ 27) x1).bind fun v3 =>
      (t_si 106 σ 20 (((10 : Int32) + x1)) v3).bind fun σ4 =>
      t_X12_laysBack_2 n σ4 ((x1 + (1 : Int32)))
set_option maxRecDepth 20000 in
theorem l_X12_laysBack_2 (b : Nat) (h0 : q_H) {s' : r_S} : ∀ (n : Nat) (σ : r_S) (x1 : Int32), t_X12_laysBack_2 n σ x1 = some s' → m_X12_laysBack_2 n (r_H b σ h0) b x1 = some (r_H b s' h0) := by
  intro n
  induction n with
  | zero => intro σ x1 hm; cases hm
  | succ n ih =>
    intro σ x1 hm
    unfold t_X12_laysBack_2 at hm
    unfold m_X12_laysBack_2
    refine r_if _ _ hm (fun _ hm => ?_) (fun _ hm => ?_)
    · exact r_retV hm
    · refine r_gn_20 ?_
      refine r_gn_27 ?_
      refine r_ai_27 hm (fun v3 hm => ?_)
      refine r_as_20 hm (fun σ4 hm => ?_)
      exact ih _ _ hm
def t_X12_laysBack (σ : r_S) : Option r_S :=
  t_X12_laysBack_2 q_fu σ ((0 : Int32))
set_option maxRecDepth 20000 in
theorem l_X12_laysBack (b : Nat) (h0 : q_H) (σ : r_S)  {s' : r_S} (hm : t_X12_laysBack σ = some s') : m_X12_laysBack (r_H b σ h0) b = some (r_H b s' h0) := by
  unfold t_X12_laysBack at hm
  unfold m_X12_laysBack
  exact l_X12_laysBack_2 _ _ _ _ _ hm
def t_X12_ahead_83 (σ : r_S) (s0 : Int32) : Option (Int32 × r_S) :=
  (t_X12_laysBack σ).bind fun σ20 =>
  some (s0, σ20)
set_option maxRecDepth 20000 in
theorem l_X12_ahead_83 (b : Nat) (h0 : q_H) {r : Int32} {s' : r_S} : ∀ (σ : r_S) (s0 : Int32), t_X12_ahead_83 σ s0 = some (r, s') → m_X12_ahead_83 (r_H b σ h0) b s0 = some (r, r_H b s' h0) := by
  intro σ s0 hm
  unfold t_X12_ahead_83 at hm
  unfold m_X12_ahead_83
  refine r_cV (fun s9 e9 => l_X12_laysBack _ _ _  e9) hm (fun σ20 hm => ?_)
  exact r_retS hm
def t_X12_ahead_46 (σ : r_S) (x1 : Int32) (x2 : Int32) (x3 : Int32) : Option (Int32 × r_S) :=
  (t_X12_keeps σ).bind fun σ10 =>
  (t_X12_passesAll σ10 x2).bind fun σ12 =>
  if x3 = 0 then
    (t_X12_ribbon σ12).bind fun r17 =>
    t_X12_ahead_83 σ12 r17
  else
    if x3 = (1 : Int32) then
      (t_X12_windOf σ12 x1).bind fun r15 =>
      t_X12_ahead_83 σ12 r15
    else
      (t_X12_upOnes σ12).bind fun r13 =>
      t_X12_ahead_83 σ12 r13
set_option maxRecDepth 20000 in
theorem l_X12_ahead_46 (b : Nat) (h0 : q_H) {r : Int32} {s' : r_S} : ∀ (σ : r_S) (x1 : Int32) (x2 : Int32) (x3 : Int32), t_X12_ahead_46 σ x1 x2 x3 = some (r, s') → m_X12_ahead_46 (r_H b σ h0) b x1 x2 x3 = some (r, r_H b s' h0) := by
  intro σ x1 x2 x3 hm
  unfold t_X12_ahead_46 at hm
  unfold m_X12_ahead_46
  refine r_cV (fun s9 e9 => l_X12_keeps _ _ _  e9) hm (fun σ10 hm => ?_)
  refine r_cV (fun s9 e9 => l_X12_passesAll _ _ _ _ e9) hm (fun σ12 hm => ?_)
  refine r_if _ _ hm (fun _ hm => ?_) (fun _ hm => ?_)
  · refine r_cP (fun r9 e9 => l_X12_ribbon _ _ _  e9) hm (fun r17 hm => ?_)
    exact l_X12_ahead_83 _ _ _ _ hm
  · refine r_if _ _ hm (fun _ hm => ?_) (fun _ hm => ?_)
    · refine r_cP (fun r9 e9 => l_X12_windOf _ _ _ _ e9) hm (fun r15 hm => ?_)
      exact l_X12_ahead_83 _ _ _ _ hm
    · refine r_cP (fun r9 e9 => l_X12_upOnes _ _ _  e9) hm (fun r13 hm => ?_)
      exact l_X12_ahead_83 _ _ _ _ hm
def t_X12_ahead (σ : r_S) (a1 : Int32) (a2 : Int32) (a3 : Int32) : Option (Int32 × r_S) :=
  (t_X12_isRope σ).bind fun r1 =>
  if r1 = 0 then
    some ((-1 : Int32), σ)
  else
    (m_X12_in a2.toInt64 ((0 : Int64)) ((100 : Int64))).bind fun r3 =>
    if r3 = 0 then
      some ((-1 : Int32), σ)
    else
      (m_X12_in a3.toInt64 ((0 : Int64)) ((2 : Int64))).bind fun r5 =>
      if r5 = 0 then
        some ((-1 : Int32), σ)
      else
        if a3 = (1 : Int32) then
          (t_X12_isPuller σ a1).bind fun r7 =>
          if r7 = 0 then
            some ((-1 : Int32), σ)
          else
            t_X12_ahead_46 σ a1 a2 a3
        else
          t_X12_ahead_46 σ a1 a2 a3
set_option maxRecDepth 20000 in
theorem l_X12_ahead (b : Nat) (h0 : q_H) (σ : r_S) (a1 : Int32) (a2 : Int32) (a3 : Int32) {r : Int32} {s' : r_S} (hm : t_X12_ahead σ a1 a2 a3 = some (r, s')) : m_X12_ahead (r_H b σ h0) b a1 a2 a3 = some (r, r_H b s' h0) := by
  unfold t_X12_ahead at hm
  unfold m_X12_ahead
  refine r_cP (fun r9 e9 => l_X12_isRope _ _ _  e9) hm (fun r1 hm => ?_)
  refine r_if _ _ hm (fun _ hm => ?_) (fun _ hm => ?_)
  · exact r_retS hm
  · refine r_bd hm (fun r3 hm => ?_)
    refine r_if _ _ hm (fun _ hm => ?_) (fun _ hm => ?_)
    · exact r_retS hm
    · refine r_bd hm (fun r5 hm => ?_)
      refine r_if _ _ hm (fun _ hm => ?_) (fun _ hm => ?_)
      · exact r_retS hm
      · refine r_if _ _ hm (fun _ hm => ?_) (fun _ hm => ?_)
        · refine r_cP (fun r9 e9 => l_X12_isPuller _ _ _ _ e9) hm (fun r7 hm => ?_)
          refine r_if _ _ hm (fun _ hm => ?_) (fun _ hm => ?_)
          · exact r_retS hm
          · exact l_X12_ahead_46 _ _ _ _ _ _ hm
        · exact l_X12_ahead_46 _ _ _ _ _ _ hm
def t_X12_over_82 (k28 : r_S → Int32 → Int32 → Int32 → Option (Int32 × r_S)) (σ : r_S) (x1 : Int32) (x2 : Int32) (x3 : Int32) : Option (Int32 × r_S) :=
  k28 σ x1 x2 ((x3 + (1 : Int32)))
set_option maxRecDepth 20000 in
theorem l_X12_over_82 (b : Nat) (h0 : q_H) {r : Int32} {s' : r_S} {k28 : r_S → Int32 → Int32 → Int32 → Option (Int32 × r_S)} {gk28 : q_H → Nat → Int32 → Int32 → Int32 → Option (Int32 × q_H)} (hk28 : ∀ (σ : r_S) (x1 : Int32) (x2 : Int32) (x3 : Int32), k28 σ x1 x2 x3 = some (r, s') → gk28 (r_H b σ h0) b x1 x2 x3 = some (r, r_H b s' h0)) : ∀ (σ : r_S) (x1 : Int32) (x2 : Int32) (x3 : Int32), t_X12_over_82 k28 σ x1 x2 x3 = some (r, s') → m_X12_over_82 gk28 (r_H b σ h0) b x1 x2 x3 = some (r, r_H b s' h0) := by
  intro σ x1 x2 x3 hm
  unfold t_X12_over_82 at hm
  unfold m_X12_over_82
  exact hk28 _ _ _ _ hm
def t_X12_over_81 (k28 : r_S → Int32 → Int32 → Int32 → Option (Int32 × r_S)) (σ : r_S) (x1 : Int32) (x3 : Int32) (s0 : Int32) : Option (Int32 × r_S) :=
  t_X12_over_82 k28 σ x1 s0 x3
set_option maxRecDepth 20000 in
theorem l_X12_over_81 (b : Nat) (h0 : q_H) {r : Int32} {s' : r_S} {k28 : r_S → Int32 → Int32 → Int32 → Option (Int32 × r_S)} {gk28 : q_H → Nat → Int32 → Int32 → Int32 → Option (Int32 × q_H)} (hk28 : ∀ (σ : r_S) (x1 : Int32) (x2 : Int32) (x3 : Int32), k28 σ x1 x2 x3 = some (r, s') → gk28 (r_H b σ h0) b x1 x2 x3 = some (r, r_H b s' h0)) : ∀ (σ : r_S) (x1 : Int32) (x3 : Int32) (s0 : Int32), t_X12_over_81 k28 σ x1 x3 s0 = some (r, s') → m_X12_over_81 gk28 (r_H b σ h0) b x1 x3 s0 = some (r, r_H b s' h0) := by
  intro σ x1 x3 s0 hm
  unfold t_X12_over_81 at hm
  unfold m_X12_over_81
  exact l_X12_over_82 _ _ hk28 _ _ _ _ hm
def t_X12_over_88 (σ : r_S) (x2 : Int32) : Option (Int32 × r_S) :=
  (t_X12_laysBack σ).bind fun σ16 =>
  some (x2, σ16)
set_option maxRecDepth 20000 in
theorem l_X12_over_88 (b : Nat) (h0 : q_H) {r : Int32} {s' : r_S} : ∀ (σ : r_S) (x2 : Int32), t_X12_over_88 σ x2 = some (r, s') → m_X12_over_88 (r_H b σ h0) b x2 = some (r, r_H b s' h0) := by
  intro σ x2 hm
  unfold t_X12_over_88 at hm
  unfold m_X12_over_88
  refine r_cV (fun s9 e9 => l_X12_laysBack _ _ _  e9) hm (fun σ16 hm => ?_)
  exact r_retS hm
def t_X12_over_28  : Nat → r_S → Int32 → Int32 → Int32 → Option (Int32 × r_S)
  | 0, _, _, _, _ => none
  | n + 1, σ, x1, x2, x3 =>
    if (200 : Int32) ≤ x3 then
      t_X12_over_88 σ x2
    else
      if 0 ≤ x2 then
        t_X12_over_88 σ x2
      else
        (t_X12_passes σ).bind fun σ8 =>
        (t_X12_isOver σ8).bind fun r9 =>
        if r9 = 0 then
          t_X12_over_82 (t_X12_over_28 n) σ8 x1 x2 x3
        else
          if x1 = 0 then
            (t_ai 106 (r_A σ8 20) ((10 : Int32))).bind fun v14 =>
            t_X12_over_81 (t_X12_over_28 n) σ8 x1 x3 ((v14 - (1 : Int32)))
          else
            (t_ai 106 (r_A σ8 20) ((11 : Int32))).bind fun v12 =>
            if 0 ≤ v12 then
              t_X12_over_81 (t_X12_over_28 n) σ8 x1 x3 ((1 : Int32))
            else
              t_X12_over_81 (t_X12_over_28 n) σ8 x1 x3 ((0 : Int32))
set_option maxRecDepth 20000 in
theorem l_X12_over_28 (b : Nat) (h0 : q_H) {r : Int32} {s' : r_S} : ∀ (n : Nat) (σ : r_S) (x1 : Int32) (x2 : Int32) (x3 : Int32), t_X12_over_28 n σ x1 x2 x3 = some (r, s') → m_X12_over_28 n (r_H b σ h0) b x1 x2 x3 = some (r, r_H b s' h0) := by
  intro n
  induction n with
  | zero => intro σ x1 x2 x3 hm; cases hm
  | succ n ih =>
    intro σ x1 x2 x3 hm
    unfold t_X12_over_28 at hm
    unfold m_X12_over_28
    refine r_if _ _ hm (fun _ hm => ?_) (fun _ hm => ?_)
    · exact l_X12_over_88 _ _ _ _ hm
    · refine r_if _ _ hm (fun _ hm => ?_) (fun _ hm => ?_)
      · exact l_X12_over_88 _ _ _ _ hm
      · refine r_cV (fun s9 e9 => l_X12_passes _ _ _  e9) hm (fun σ8 hm => ?_)
        refine r_cP (fun r9 e9 => l_X12_isOver _ _ _  e9) hm (fun r9 hm => ?_)
        refine r_if _ _ hm (fun _ hm => ?_) (fun _ hm => ?_)
        · exact l_X12_over_82 _ _ ih _ _ _ _ hm
        · refine r_if _ _ hm (fun _ hm => ?_) (fun _ hm => ?_)
          · refine r_gn_20 ?_
            refine r_ai_20 hm (fun v14 hm => ?_)
            exact l_X12_over_81 _ _ ih _ _ _ _ hm
          · refine r_gn_20 ?_
            refine r_ai_20 hm (fun v12 hm => ?_)
            refine r_if _ _ hm (fun _ hm => ?_) (fun _ hm => ?_)
            · exact l_X12_over_81 _ _ ih _ _ _ _ hm
            · exact l_X12_over_81 _ _ ih _ _ _ _ hm
def t_X12_over (σ : r_S) (a1 : Int32) : Option (Int32 × r_S) :=
  (t_X12_isRope σ).bind fun r1 =>
  if r1 = 0 then
    some ((-1 : Int32), σ)
  else
    (m_X12_in a1.toInt64 ((0 : Int64)) ((1 : Int64))).bind fun r3 =>
    if r3 = 0 then
      some ((-1 : Int32), σ)
    else
      (t_X12_keeps σ).bind fun σ6 =>
      t_X12_over_28 q_fu σ6 a1 ((-2 : Int32)) ((0 : Int32))
set_option maxRecDepth 20000 in
theorem l_X12_over (b : Nat) (h0 : q_H) (σ : r_S) (a1 : Int32) {r : Int32} {s' : r_S} (hm : t_X12_over σ a1 = some (r, s')) : m_X12_over (r_H b σ h0) b a1 = some (r, r_H b s' h0) := by
  unfold t_X12_over at hm
  unfold m_X12_over
  refine r_cP (fun r9 e9 => l_X12_isRope _ _ _  e9) hm (fun r1 hm => ?_)
  refine r_if _ _ hm (fun _ hm => ?_) (fun _ hm => ?_)
  · exact r_retS hm
  · refine r_bd hm (fun r3 hm => ?_)
    refine r_if _ _ hm (fun _ hm => ?_) (fun _ hm => ?_)
    · exact r_retS hm
    · refine r_cV (fun s9 e9 => l_X12_keeps _ _ _  e9) hm (fun σ6 hm => ?_)
      exact l_X12_over_28 _ _ _ _ _ _ _ hm
def t_X12_farBy_3  : Nat → r_S → Int32 → Int32 → Int32 → Int32 → Option (Int32 × r_S)
  | 0, _, _, _, _, _ => none
  | n + 1, σ, x1, x2, x3, x4 =>
    if x2 ≤ x4 then
      (t_si 8 σ 23 x1 ((-1 : Int32))).bind fun σ2 =>
      (t_X12_towards σ2 x1).bind fun r3 =>
      (t_X12_laysBack σ2).bind fun σ6 =>
      some (r3, σ6)
    else
      (m_X12_placeOfFour x2 x4).bind fun r8 =>
      if r8 = 0 then none else
      (t_si 8 σ 23 x1 ((q_rmi ((x3 / r8)) ((4 : Int32))))).bind fun σ10 =>
      (t_X12_passes σ10).bind fun σ12 =>
      t_X12_farBy_3 n σ12 x1 x2 x3 ((x4 + (1 : Int32)))
set_option maxRecDepth 20000 in
theorem l_X12_farBy_3 (b : Nat) (h0 : q_H) {r : Int32} {s' : r_S} : ∀ (n : Nat) (σ : r_S) (x1 : Int32) (x2 : Int32) (x3 : Int32) (x4 : Int32), t_X12_farBy_3 n σ x1 x2 x3 x4 = some (r, s') → m_X12_farBy_3 n (r_H b σ h0) b x1 x2 x3 x4 = some (r, r_H b s' h0) := by
  intro n
  induction n with
  | zero => intro σ x1 x2 x3 x4 hm; cases hm
  | succ n ih =>
    intro σ x1 x2 x3 x4 hm
    unfold t_X12_farBy_3 at hm
    unfold m_X12_farBy_3
    refine r_if _ _ hm (fun _ hm => ?_) (fun _ hm => ?_)
    · refine r_gn_23 ?_
      refine r_as_23 hm (fun σ2 hm => ?_)
      refine r_cP (fun r9 e9 => l_X12_towards _ _ _ _ e9) hm (fun r3 hm => ?_)
      refine r_cV (fun s9 e9 => l_X12_laysBack _ _ _  e9) hm (fun σ6 hm => ?_)
      exact r_retS hm
    · refine r_gn_23 ?_
      refine r_bd hm (fun r8 hm => ?_)
      refine r_if _ _ hm (fun _ hm => by cases hm) (fun _ hm => ?_)
      refine r_as_23 hm (fun σ10 hm => ?_)
      refine r_cV (fun s9 e9 => l_X12_passes _ _ _  e9) hm (fun σ12 hm => ?_)
      exact ih _ _ _ _ _ hm
def t_X12_farBy (σ : r_S) (a1 : Int32) (a2 : Int32) (a3 : Int32) : Option (Int32 × r_S) :=
  t_X12_farBy_3 q_fu σ a1 a2 a3 ((0 : Int32))
set_option maxRecDepth 20000 in
theorem l_X12_farBy (b : Nat) (h0 : q_H) (σ : r_S) (a1 : Int32) (a2 : Int32) (a3 : Int32) {r : Int32} {s' : r_S} (hm : t_X12_farBy σ a1 a2 a3 = some (r, s')) : m_X12_farBy (r_H b σ h0) b a1 a2 a3 = some (r, r_H b s' h0) := by
  unfold t_X12_farBy at hm
  unfold m_X12_farBy
  exact l_X12_farBy_3 _ _ _ _ _ _ _ _ hm
def t_X12_row_91 (k48 : r_S → Int32 → Int32 → Int32 → Int32 → Int32 → Int32 → Option (Int32 × r_S)) (σ : r_S) (x1 : Int32) (x2 : Int32) (x3 : Int32) (x4 : Int32) (x5 : Int32) (x6 : Int32) : Option (Int32 × r_S) :=
  k48 σ x1 x2 x3 x4 x5 ((x6 + (1 : Int32)))
set_option maxRecDepth 20000 in
theorem l_X12_row_91 (b : Nat) (h0 : q_H) {r : Int32} {s' : r_S} {k48 : r_S → Int32 → Int32 → Int32 → Int32 → Int32 → Int32 → Option (Int32 × r_S)} {gk48 : q_H → Nat → Int32 → Int32 → Int32 → Int32 → Int32 → Int32 → Option (Int32 × q_H)} (hk48 : ∀ (σ : r_S) (x1 : Int32) (x2 : Int32) (x3 : Int32) (x4 : Int32) (x5 : Int32) (x6 : Int32), k48 σ x1 x2 x3 x4 x5 x6 = some (r, s') → gk48 (r_H b σ h0) b x1 x2 x3 x4 x5 x6 = some (r, r_H b s' h0)) : ∀ (σ : r_S) (x1 : Int32) (x2 : Int32) (x3 : Int32) (x4 : Int32) (x5 : Int32) (x6 : Int32), t_X12_row_91 k48 σ x1 x2 x3 x4 x5 x6 = some (r, s') → m_X12_row_91 gk48 (r_H b σ h0) b x1 x2 x3 x4 x5 x6 = some (r, r_H b s' h0) := by
  intro σ x1 x2 x3 x4 x5 x6 hm
  unfold t_X12_row_91 at hm
  unfold m_X12_row_91
  exact hk48 _ _ _ _ _ _ _ hm
def t_X12_row_83 (k48 : r_S → Int32 → Int32 → Int32 → Int32 → Int32 → Int32 → Option (Int32 × r_S)) (σ : r_S) (x1 : Int32) (x2 : Int32) (x3 : Int32) (x6 : Int32) (x7 : Int32) : Option (Int32 × r_S) :=
  t_X12_row_91 k48 σ x1 x2 x3 x6 x7 x6
set_option maxRecDepth 20000 in
theorem l_X12_row_83 (b : Nat) (h0 : q_H) {r : Int32} {s' : r_S} {k48 : r_S → Int32 → Int32 → Int32 → Int32 → Int32 → Int32 → Option (Int32 × r_S)} {gk48 : q_H → Nat → Int32 → Int32 → Int32 → Int32 → Int32 → Int32 → Option (Int32 × q_H)} (hk48 : ∀ (σ : r_S) (x1 : Int32) (x2 : Int32) (x3 : Int32) (x4 : Int32) (x5 : Int32) (x6 : Int32), k48 σ x1 x2 x3 x4 x5 x6 = some (r, s') → gk48 (r_H b σ h0) b x1 x2 x3 x4 x5 x6 = some (r, r_H b s' h0)) : ∀ (σ : r_S) (x1 : Int32) (x2 : Int32) (x3 : Int32) (x6 : Int32) (x7 : Int32), t_X12_row_83 k48 σ x1 x2 x3 x6 x7 = some (r, s') → m_X12_row_83 gk48 (r_H b σ h0) b x1 x2 x3 x6 x7 = some (r, r_H b s' h0) := by
  intro σ x1 x2 x3 x6 x7 hm
  unfold t_X12_row_83 at hm
  unfold m_X12_row_83
  exact l_X12_row_91 _ _ hk48 _ _ _ _ _ _ _ hm
def t_X12_row_48  : Nat → r_S → Int32 → Int32 → Int32 → Int32 → Int32 → Int32 → Option (Int32 × r_S)
  | 0, _, _, _, _, _, _, _ => none
  | n + 1, σ, x1, x2, x3, x4, x5, x6 =>
    if ((1 : Int32) <<< (((2 : Int32) * x2) &&& 31)) ≤ x6 then
      if x3 = 0 then
        some ((x5 + (100 : Int32)), σ)
      else
        if x2 < x3 then
          some ((-1 : Int32), σ)
        else
          (m_X12_placeOfFour x2 ((x3 - (1 : Int32)))).bind fun r9 =>
          if r9 = 0 then none else
          some ((q_rmi ((x4 / r9)) ((4 : Int32))), σ)
    else
      (t_X12_farBy σ x1 x2 x6).bind fun (r11, σ12) =>
      if x4 < 0 then
        t_X12_row_83 (t_X12_row_48 n) σ12 x1 x2 x3 x6 r11
      else
        if x5 < r11 then
          t_X12_row_83 (t_X12_row_48 n) σ12 x1 x2 x3 x6 r11
        else
          t_X12_row_91 (t_X12_row_48 n) σ12 x1 x2 x3 x4 x5 x6
set_option maxRecDepth 20000 in
theorem l_X12_row_48 (b : Nat) (h0 : q_H) {r : Int32} {s' : r_S} : ∀ (n : Nat) (σ : r_S) (x1 : Int32) (x2 : Int32) (x3 : Int32) (x4 : Int32) (x5 : Int32) (x6 : Int32), t_X12_row_48 n σ x1 x2 x3 x4 x5 x6 = some (r, s') → m_X12_row_48 n (r_H b σ h0) b x1 x2 x3 x4 x5 x6 = some (r, r_H b s' h0) := by
  intro n
  induction n with
  | zero => intro σ x1 x2 x3 x4 x5 x6 hm; cases hm
  | succ n ih =>
    intro σ x1 x2 x3 x4 x5 x6 hm
    unfold t_X12_row_48 at hm
    unfold m_X12_row_48
    refine r_if _ _ hm (fun _ hm => ?_) (fun _ hm => ?_)
    · refine r_if _ _ hm (fun _ hm => ?_) (fun _ hm => ?_)
      · exact r_retS hm
      · refine r_if _ _ hm (fun _ hm => ?_) (fun _ hm => ?_)
        · exact r_retS hm
        · refine r_bd hm (fun r9 hm => ?_)
          refine r_if _ _ hm (fun _ hm => by cases hm) (fun _ hm => ?_)
          exact r_retS hm
    · refine r_cS (fun r9 s9 e9 => l_X12_farBy _ _ _ _ _ _ e9) hm (fun r11 σ12 hm => ?_)
      refine r_if _ _ hm (fun _ hm => ?_) (fun _ hm => ?_)
      · exact l_X12_row_83 _ _ ih _ _ _ _ _ _ hm
      · refine r_if _ _ hm (fun _ hm => ?_) (fun _ hm => ?_)
        · exact l_X12_row_83 _ _ ih _ _ _ _ _ _ hm
        · exact l_X12_row_91 _ _ ih _ _ _ _ _ _ _ hm
def t_X12_row (σ : r_S) (a1 : Int32) (a2 : Int32) (a3 : Int32) : Option (Int32 × r_S) :=
  (t_X12_isPuller σ a1).bind fun r1 =>
  if r1 = 0 then
    some ((-2 : Int32), σ)
  else
    (m_X12_in a2.toInt64 ((1 : Int64)) ((4 : Int64))).bind fun r3 =>
    if r3 = 0 then
      some ((-2 : Int32), σ)
    else
      (m_X12_in a3.toInt64 ((0 : Int64)) ((4 : Int64))).bind fun r5 =>
      if r5 = 0 then
        some ((-2 : Int32), σ)
      else
        (t_X12_keeps σ).bind fun σ8 =>
        t_X12_row_48 q_fu σ8 a1 a2 a3 ((-1 : Int32)) ((-1 : Int32)) ((0 : Int32))
set_option maxRecDepth 20000 in
theorem l_X12_row (b : Nat) (h0 : q_H) (σ : r_S) (a1 : Int32) (a2 : Int32) (a3 : Int32) {r : Int32} {s' : r_S} (hm : t_X12_row σ a1 a2 a3 = some (r, s')) : m_X12_row (r_H b σ h0) b a1 a2 a3 = some (r, r_H b s' h0) := by
  unfold t_X12_row at hm
  unfold m_X12_row
  refine r_cP (fun r9 e9 => l_X12_isPuller _ _ _ _ e9) hm (fun r1 hm => ?_)
  refine r_if _ _ hm (fun _ hm => ?_) (fun _ hm => ?_)
  · exact r_retS hm
  · refine r_bd hm (fun r3 hm => ?_)
    refine r_if _ _ hm (fun _ hm => ?_) (fun _ hm => ?_)
    · exact r_retS hm
    · refine r_bd hm (fun r5 hm => ?_)
      refine r_if _ _ hm (fun _ hm => ?_) (fun _ hm => ?_)
      · exact r_retS hm
      · refine r_cV (fun s9 e9 => l_X12_keeps _ _ _  e9) hm (fun σ8 hm => ?_)
        exact l_X12_row_48 _ _ _ _ _ _ _ _ _ _ hm
def t_X12_nearIn_33 (σ : r_S) (s0 : Int32) : Option (Int32 × r_S) :=
  (t_X12_laysBack σ).bind fun σ10 =>
  some (s0, σ10)
set_option maxRecDepth 20000 in
theorem l_X12_nearIn_33 (b : Nat) (h0 : q_H) {r : Int32} {s' : r_S} : ∀ (σ : r_S) (s0 : Int32), t_X12_nearIn_33 σ s0 = some (r, s') → m_X12_nearIn_33 (r_H b σ h0) b s0 = some (r, r_H b s' h0) := by
  intro σ s0 hm
  unfold t_X12_nearIn_33 at hm
  unfold m_X12_nearIn_33
  refine r_cV (fun s9 e9 => l_X12_laysBack _ _ _  e9) hm (fun σ10 hm => ?_)
  exact r_retS hm
def t_X12_nearIn (σ : r_S) (a1 : Int32) : Option (Int32 × r_S) :=
  (t_X12_passesAll σ a1).bind fun σ2 =>
  (t_ai 106 (r_A σ2 20) ((11 : Int32))).bind fun v4 =>
  if 0 ≤ v4 then
    (t_ai 106 (r_A σ2 20) ((11 : Int32))).bind fun v6 =>
    t_X12_nearIn_33 σ2 v6
  else
    (t_ai 106 (r_A σ2 20) ((11 : Int32))).bind fun v8 =>
    t_X12_nearIn_33 σ2 ((0 - v8))
set_option maxRecDepth 20000 in
theorem l_X12_nearIn (b : Nat) (h0 : q_H) (σ : r_S) (a1 : Int32) {r : Int32} {s' : r_S} (hm : t_X12_nearIn σ a1 = some (r, s')) : m_X12_nearIn (r_H b σ h0) b a1 = some (r, r_H b s' h0) := by
  unfold t_X12_nearIn at hm
  unfold m_X12_nearIn
  refine r_cV (fun s9 e9 => l_X12_passesAll _ _ _ _ e9) hm (fun σ2 hm => ?_)
  refine r_gn_20 ?_
  refine r_ai_20 hm (fun v4 hm => ?_)
  refine r_if _ _ hm (fun _ hm => ?_) (fun _ hm => ?_)
  · refine r_gn_20 ?_
    refine r_ai_20 hm (fun v6 hm => ?_)
    exact l_X12_nearIn_33 _ _ _ _ hm
  · refine r_gn_20 ?_
    refine r_ai_20 hm (fun v8 hm => ?_)
    exact l_X12_nearIn_33 _ _ _ _ hm
def t_X12_trades_2  : Nat → r_S → Int32 → Int32 → Int32 → Option r_S
  | 0, _, _, _, _ => none
  | n + 1, σ, x1, x2, x3 =>
    if (2 : Int32) ≤ x3 then
      some σ
    else
      (t_ai 106 (r_A σ 20) ((((12 : Int32) + ((5 : Int32) * x1)) + x3))).bind fun v2 =>
      (t_ai 106 (r_A σ 20) ((((12 : Int32) + ((5 : Int32) * x2)) + x3))).bind fun v5 =>
      (t_si 106 σ 20 ((((12 : Int32) + ((5 : Int32) * x1)) + x3)) v5).bind fun σ6 =>
      (t_si 106 σ6 20 ((((12 : Int32) + ((5 : Int32) * x2)) + x3)) v2).bind fun σ8 =>
      t_X12_trades_2 n σ8 x1 x2 ((x3 + (1 : Int32)))
set_option maxRecDepth 20000 in
theorem l_X12_trades_2 (b : Nat) (h0 : q_H) {s' : r_S} : ∀ (n : Nat) (σ : r_S) (x1 : Int32) (x2 : Int32) (x3 : Int32), t_X12_trades_2 n σ x1 x2 x3 = some s' → m_X12_trades_2 n (r_H b σ h0) b x1 x2 x3 = some (r_H b s' h0) := by
  intro n
  induction n with
  | zero => intro σ x1 x2 x3 hm; cases hm
  | succ n ih =>
    intro σ x1 x2 x3 hm
    unfold t_X12_trades_2 at hm
    unfold m_X12_trades_2
    refine r_if _ _ hm (fun _ hm => ?_) (fun _ hm => ?_)
    · exact r_retV hm
    · refine r_gn_20 ?_
      refine r_ai_20 hm (fun v2 hm => ?_)
      refine r_gn_20 ?_
      refine r_gn_20 ?_
      refine r_ai_20 hm (fun v5 hm => ?_)
      refine r_as_20 hm (fun σ6 hm => ?_)
      refine r_gn_20 ?_
      refine r_as_20 hm (fun σ8 hm => ?_)
      exact ih _ _ _ _ hm
def t_X12_trades (σ : r_S) (a1 : Int32) (a2 : Int32) : Option r_S :=
  t_X12_trades_2 q_fu σ a1 a2 ((0 : Int32))
set_option maxRecDepth 20000 in
theorem l_X12_trades (b : Nat) (h0 : q_H) (σ : r_S) (a1 : Int32) (a2 : Int32) {s' : r_S} (hm : t_X12_trades σ a1 a2 = some s') : m_X12_trades (r_H b σ h0) b a1 a2 = some (r_H b s' h0) := by
  unfold t_X12_trades at hm
  unfold m_X12_trades
  exact l_X12_trades_2 _ _ _ _ _ _ _ hm
def t_X12_trade_136 (k53 : r_S → Int32 → Int32 → Int32 → Int32 → Int32 → Int32 → Option (Int32 × r_S)) (k67 : r_S → Int32 → Int32 → Int32 → Int32 → Int32 → Int32 → Int32 → Option (Int32 × r_S)) (σ : r_S) (x1 : Int32) (x2 : Int32) (x3 : Int32) (x4 : Int32) (x5 : Int32) (x6 : Int32) (x7 : Int32) : Option (Int32 × r_S) :=
  k67 σ x1 x2 x3 x4 x5 x6 ((x7 + (1 : Int32)))
set_option maxRecDepth 20000 in
theorem l_X12_trade_136 (b : Nat) (h0 : q_H) {r : Int32} {s' : r_S} {k53 : r_S → Int32 → Int32 → Int32 → Int32 → Int32 → Int32 → Option (Int32 × r_S)} {gk53 : q_H → Nat → Int32 → Int32 → Int32 → Int32 → Int32 → Int32 → Option (Int32 × q_H)} {k67 : r_S → Int32 → Int32 → Int32 → Int32 → Int32 → Int32 → Int32 → Option (Int32 × r_S)} {gk67 : q_H → Nat → Int32 → Int32 → Int32 → Int32 → Int32 → Int32 → Int32 → Option (Int32 × q_H)} (hk53 : ∀ (σ : r_S) (x1 : Int32) (x2 : Int32) (x3 : Int32) (x4 : Int32) (x5 : Int32) (x6 : Int32), k53 σ x1 x2 x3 x4 x5 x6 = some (r, s') → gk53 (r_H b σ h0) b x1 x2 x3 x4 x5 x6 = some (r, r_H b s' h0)) (hk67 : ∀ (σ : r_S) (x1 : Int32) (x2 : Int32) (x3 : Int32) (x4 : Int32) (x5 : Int32) (x6 : Int32) (x7 : Int32), k67 σ x1 x2 x3 x4 x5 x6 x7 = some (r, s') → gk67 (r_H b σ h0) b x1 x2 x3 x4 x5 x6 x7 = some (r, r_H b s' h0)) : ∀ (σ : r_S) (x1 : Int32) (x2 : Int32) (x3 : Int32) (x4 : Int32) (x5 : Int32) (x6 : Int32) (x7 : Int32), t_X12_trade_136 k53 k67 σ x1 x2 x3 x4 x5 x6 x7 = some (r, s') → m_X12_trade_136 gk53 gk67 (r_H b σ h0) b x1 x2 x3 x4 x5 x6 x7 = some (r, r_H b s' h0) := by
  intro σ x1 x2 x3 x4 x5 x6 x7 hm
  unfold t_X12_trade_136 at hm
  unfold m_X12_trade_136
  exact hk67 _ _ _ _ _ _ _ _ hm
def t_X12_trade_67 (k53 : r_S → Int32 → Int32 → Int32 → Int32 → Int32 → Int32 → Option (Int32 × r_S)) : Nat → r_S → Int32 → Int32 → Int32 → Int32 → Int32 → Int32 → Int32 → Option (Int32 × r_S)
  | 0, _, _, _, _, _, _, _, _ => none
  | n + 1, σ, x1, x2, x3, x4, x5, x6, x7 =>
    (t_ai 106 (r_A σ 20) ((3 : Int32))).bind fun v15 =>
    if v15 ≤ x7 then
      k53 σ x1 x2 x3 x4 x5 ((x6 + (1 : Int32)))
    else
      (t_X12_sideOf σ x6).bind fun r16 =>
      if r16 = 0 then
        (t_X12_sideOf σ x7).bind fun r18 =>
        if r18 = (1 : Int32) then
          (t_X12_trades σ x6 x7).bind fun σ21 =>
          (t_X12_nearIn σ21 x1).bind fun (r22, σ23) =>
          if r22 < x5 then
            t_X12_trade_136 k53 (t_X12_trade_67 k53 n) σ23 x1 x2 x6 x7 r22 x6 x7
          else
            t_X12_trade_136 k53 (t_X12_trade_67 k53 n) σ23 x1 x2 x3 x4 x5 x6 x7
        else
          t_X12_trade_136 k53 (t_X12_trade_67 k53 n) σ x1 x2 x3 x4 x5 x6 x7
      else
        t_X12_trade_136 k53 (t_X12_trade_67 k53 n) σ x1 x2 x3 x4 x5 x6 x7
set_option maxRecDepth 20000 in
theorem l_X12_trade_67 (b : Nat) (h0 : q_H) {r : Int32} {s' : r_S} {k53 : r_S → Int32 → Int32 → Int32 → Int32 → Int32 → Int32 → Option (Int32 × r_S)} {gk53 : q_H → Nat → Int32 → Int32 → Int32 → Int32 → Int32 → Int32 → Option (Int32 × q_H)} (hk53 : ∀ (σ : r_S) (x1 : Int32) (x2 : Int32) (x3 : Int32) (x4 : Int32) (x5 : Int32) (x6 : Int32), k53 σ x1 x2 x3 x4 x5 x6 = some (r, s') → gk53 (r_H b σ h0) b x1 x2 x3 x4 x5 x6 = some (r, r_H b s' h0)) : ∀ (n : Nat) (σ : r_S) (x1 : Int32) (x2 : Int32) (x3 : Int32) (x4 : Int32) (x5 : Int32) (x6 : Int32) (x7 : Int32), t_X12_trade_67 k53 n σ x1 x2 x3 x4 x5 x6 x7 = some (r, s') → m_X12_trade_67 gk53 n (r_H b σ h0) b x1 x2 x3 x4 x5 x6 x7 = some (r, r_H b s' h0) := by
  intro n
  induction n with
  | zero => intro σ x1 x2 x3 x4 x5 x6 x7 hm; cases hm
  | succ n ih =>
    intro σ x1 x2 x3 x4 x5 x6 x7 hm
    unfold t_X12_trade_67 at hm
    unfold m_X12_trade_67
    refine r_gn_20 ?_
    refine r_ai_20 hm (fun v15 hm => ?_)
    refine r_if _ _ hm (fun _ hm => ?_) (fun _ hm => ?_)
    · exact hk53 _ _ _ _ _ _ _ hm
    · refine r_cP (fun r9 e9 => l_X12_sideOf _ _ _ _ e9) hm (fun r16 hm => ?_)
      refine r_if _ _ hm (fun _ hm => ?_) (fun _ hm => ?_)
      · refine r_cP (fun r9 e9 => l_X12_sideOf _ _ _ _ e9) hm (fun r18 hm => ?_)
        refine r_if _ _ hm (fun _ hm => ?_) (fun _ hm => ?_)
        · refine r_cV (fun s9 e9 => l_X12_trades _ _ _ _ _ e9) hm (fun σ21 hm => ?_)
          refine r_cS (fun r9 s9 e9 => l_X12_nearIn _ _ _ _ e9) hm (fun r22 σ23 hm => ?_)
          refine r_if _ _ hm (fun _ hm => ?_) (fun _ hm => ?_)
          · exact l_X12_trade_136 _ _ hk53 ih _ _ _ _ _ _ _ _ hm
          · exact l_X12_trade_136 _ _ hk53 ih _ _ _ _ _ _ _ _ hm
        · exact l_X12_trade_136 _ _ hk53 ih _ _ _ _ _ _ _ _ hm
      · exact l_X12_trade_136 _ _ hk53 ih _ _ _ _ _ _ _ _ hm
def t_X12_trade_53  : Nat → r_S → Int32 → Int32 → Int32 → Int32 → Int32 → Int32 → Option (Int32 × r_S)
  | 0, _, _, _, _, _, _, _ => none
  | n + 1, σ, x1, x2, x3, x4, x5, x6 =>
    (t_ai 106 (r_A σ 20) ((3 : Int32))).bind fun v13 =>
    if v13 ≤ x6 then
      if x2 = 0 then
        some (x5, σ)
      else
        if x2 = (1 : Int32) then
          some (x3, σ)
        else
          some (x4, σ)
    else
      t_X12_trade_67 (t_X12_trade_53 n) q_fu σ x1 x2 x3 x4 x5 x6 ((0 : Int32))
set_option maxRecDepth 20000 in
theorem l_X12_trade_53 (b : Nat) (h0 : q_H) {r : Int32} {s' : r_S} : ∀ (n : Nat) (σ : r_S) (x1 : Int32) (x2 : Int32) (x3 : Int32) (x4 : Int32) (x5 : Int32) (x6 : Int32), t_X12_trade_53 n σ x1 x2 x3 x4 x5 x6 = some (r, s') → m_X12_trade_53 n (r_H b σ h0) b x1 x2 x3 x4 x5 x6 = some (r, r_H b s' h0) := by
  intro n
  induction n with
  | zero => intro σ x1 x2 x3 x4 x5 x6 hm; cases hm
  | succ n ih =>
    intro σ x1 x2 x3 x4 x5 x6 hm
    unfold t_X12_trade_53 at hm
    unfold m_X12_trade_53
    refine r_gn_20 ?_
    refine r_ai_20 hm (fun v13 hm => ?_)
    refine r_if _ _ hm (fun _ hm => ?_) (fun _ hm => ?_)
    · refine r_if _ _ hm (fun _ hm => ?_) (fun _ hm => ?_)
      · exact r_retS hm
      · refine r_if _ _ hm (fun _ hm => ?_) (fun _ hm => ?_)
        · exact r_retS hm
        · exact r_retS hm
    · exact l_X12_trade_67 _ _ ih _ _ _ _ _ _ _ _ _ hm
def t_X12_trade (σ : r_S) (a1 : Int32) (a2 : Int32) : Option (Int32 × r_S) :=
  (t_X12_isRope σ).bind fun r1 =>
  if r1 = 0 then
    some ((-2 : Int32), σ)
  else
    (m_X12_in a1.toInt64 ((1 : Int64)) ((40 : Int64))).bind fun r3 =>
    if r3 = 0 then
      some ((-2 : Int32), σ)
    else
      (m_X12_in a2.toInt64 ((0 : Int64)) ((2 : Int64))).bind fun r5 =>
      if r5 = 0 then
        some ((-2 : Int32), σ)
      else
        (t_X12_keeps σ).bind fun σ8 =>
        (t_X12_nearIn σ8 a1).bind fun (r9, σ10) =>
        t_X12_trade_53 q_fu σ10 a1 a2 ((-1 : Int32)) ((-1 : Int32)) r9 ((0 : Int32))
set_option maxRecDepth 20000 in
theorem l_X12_trade (b : Nat) (h0 : q_H) (σ : r_S) (a1 : Int32) (a2 : Int32) {r : Int32} {s' : r_S} (hm : t_X12_trade σ a1 a2 = some (r, s')) : m_X12_trade (r_H b σ h0) b a1 a2 = some (r, r_H b s' h0) := by
  unfold t_X12_trade at hm
  unfold m_X12_trade
  refine r_cP (fun r9 e9 => l_X12_isRope _ _ _  e9) hm (fun r1 hm => ?_)
  refine r_if _ _ hm (fun _ hm => ?_) (fun _ hm => ?_)
  · exact r_retS hm
  · refine r_bd hm (fun r3 hm => ?_)
    refine r_if _ _ hm (fun _ hm => ?_) (fun _ hm => ?_)
    · exact r_retS hm
    · refine r_bd hm (fun r5 hm => ?_)
      refine r_if _ _ hm (fun _ hm => ?_) (fun _ hm => ?_)
      · exact r_retS hm
      · refine r_cV (fun s9 e9 => l_X12_keeps _ _ _  e9) hm (fun σ8 hm => ?_)
        refine r_cS (fun r9 s9 e9 => l_X12_nearIn _ _ _ _ e9) hm (fun r9 σ10 hm => ?_)
        exact l_X12_trade_53 _ _ _ _ _ _ _ _ _ _ hm
def t_X12_out_99 (k48 : r_S → Int32 → Int32 → Int32 → Int32 → Int32 → Option (Int32 × r_S)) (σ : r_S) (x1 : Int32) (x2 : Int32) (x3 : Int32) (x4 : Int32) (x5 : Int32) : Option (Int32 × r_S) :=
  k48 σ x1 x2 x3 x4 ((x5 + (1 : Int32)))
set_option maxRecDepth 20000 in
theorem l_X12_out_99 (b : Nat) (h0 : q_H) {r : Int32} {s' : r_S} {k48 : r_S → Int32 → Int32 → Int32 → Int32 → Int32 → Option (Int32 × r_S)} {gk48 : q_H → Nat → Int32 → Int32 → Int32 → Int32 → Int32 → Option (Int32 × q_H)} (hk48 : ∀ (σ : r_S) (x1 : Int32) (x2 : Int32) (x3 : Int32) (x4 : Int32) (x5 : Int32), k48 σ x1 x2 x3 x4 x5 = some (r, s') → gk48 (r_H b σ h0) b x1 x2 x3 x4 x5 = some (r, r_H b s' h0)) : ∀ (σ : r_S) (x1 : Int32) (x2 : Int32) (x3 : Int32) (x4 : Int32) (x5 : Int32), t_X12_out_99 k48 σ x1 x2 x3 x4 x5 = some (r, s') → m_X12_out_99 gk48 (r_H b σ h0) b x1 x2 x3 x4 x5 = some (r, r_H b s' h0) := by
  intro σ x1 x2 x3 x4 x5 hm
  unfold t_X12_out_99 at hm
  unfold m_X12_out_99
  exact hk48 _ _ _ _ _ _ hm
def t_X12_out_48  : Nat → r_S → Int32 → Int32 → Int32 → Int32 → Int32 → Option (Int32 × r_S)
  | 0, _, _, _, _, _, _ => none
  | n + 1, σ, x1, x2, x3, x4, x5 =>
    (t_ai 106 (r_A σ 20) ((3 : Int32))).bind fun v13 =>
    if v13 ≤ x5 then
      if x2 = 0 then
        some (x3, σ)
      else
        some (x4, σ)
    else
      (t_si 8 σ 23 x5 ((0 : Int32))).bind fun σ15 =>
      (t_X12_nearIn σ15 x1).bind fun (r16, σ17) =>
      (t_si 8 σ17 23 x5 ((-1 : Int32))).bind fun σ20 =>
      if r16 < x4 then
        t_X12_out_99 (t_X12_out_48 n) σ20 x1 x2 x5 r16 x5
      else
        t_X12_out_99 (t_X12_out_48 n) σ20 x1 x2 x3 x4 x5
set_option maxRecDepth 20000 in
theorem l_X12_out_48 (b : Nat) (h0 : q_H) {r : Int32} {s' : r_S} : ∀ (n : Nat) (σ : r_S) (x1 : Int32) (x2 : Int32) (x3 : Int32) (x4 : Int32) (x5 : Int32), t_X12_out_48 n σ x1 x2 x3 x4 x5 = some (r, s') → m_X12_out_48 n (r_H b σ h0) b x1 x2 x3 x4 x5 = some (r, r_H b s' h0) := by
  intro n
  induction n with
  | zero => intro σ x1 x2 x3 x4 x5 hm; cases hm
  | succ n ih =>
    intro σ x1 x2 x3 x4 x5 hm
    unfold t_X12_out_48 at hm
    unfold m_X12_out_48
    refine r_gn_20 ?_
    refine r_ai_20 hm (fun v13 hm => ?_)
    refine r_if _ _ hm (fun _ hm => ?_) (fun _ hm => ?_)
    · refine r_if _ _ hm (fun _ hm => ?_) (fun _ hm => ?_)
      · exact r_retS hm
      · exact r_retS hm
    · refine r_gn_23 ?_
      refine r_as_23 hm (fun σ15 hm => ?_)
      refine r_cS (fun r9 s9 e9 => l_X12_nearIn _ _ _ _ e9) hm (fun r16 σ17 hm => ?_)
      refine r_gn_23 ?_
      refine r_as_23 hm (fun σ20 hm => ?_)
      refine r_if _ _ hm (fun _ hm => ?_) (fun _ hm => ?_)
      · exact l_X12_out_99 _ _ ih _ _ _ _ _ _ hm
      · exact l_X12_out_99 _ _ ih _ _ _ _ _ _ hm
def t_X12_out (σ : r_S) (a1 : Int32) (a2 : Int32) : Option (Int32 × r_S) :=
  (t_X12_isRope σ).bind fun r1 =>
  if r1 = 0 then
    some ((-2 : Int32), σ)
  else
    (m_X12_in a1.toInt64 ((1 : Int64)) ((40 : Int64))).bind fun r3 =>
    if r3 = 0 then
      some ((-2 : Int32), σ)
    else
      (m_X12_in a2.toInt64 ((0 : Int64)) ((1 : Int64))).bind fun r5 =>
      if r5 = 0 then
        some ((-2 : Int32), σ)
      else
        (t_X12_keeps σ).bind fun σ8 =>
        (t_X12_nearIn σ8 a1).bind fun (r9, σ10) =>
        t_X12_out_48 q_fu σ10 a1 a2 ((-1 : Int32)) r9 ((0 : Int32))
set_option maxRecDepth 20000 in
theorem l_X12_out (b : Nat) (h0 : q_H) (σ : r_S) (a1 : Int32) (a2 : Int32) {r : Int32} {s' : r_S} (hm : t_X12_out σ a1 a2 = some (r, s')) : m_X12_out (r_H b σ h0) b a1 a2 = some (r, r_H b s' h0) := by
  unfold t_X12_out at hm
  unfold m_X12_out
  refine r_cP (fun r9 e9 => l_X12_isRope _ _ _  e9) hm (fun r1 hm => ?_)
  refine r_if _ _ hm (fun _ hm => ?_) (fun _ hm => ?_)
  · exact r_retS hm
  · refine r_bd hm (fun r3 hm => ?_)
    refine r_if _ _ hm (fun _ hm => ?_) (fun _ hm => ?_)
    · exact r_retS hm
    · refine r_bd hm (fun r5 hm => ?_)
      refine r_if _ _ hm (fun _ hm => ?_) (fun _ hm => ?_)
      · exact r_retS hm
      · refine r_cV (fun s9 e9 => l_X12_keeps _ _ _  e9) hm (fun σ8 hm => ?_)
        refine r_cS (fun r9 s9 e9 => l_X12_nearIn _ _ _ _ e9) hm (fun r9 σ10 hm => ?_)
        exact l_X12_out_48 _ _ _ _ _ _ _ _ _ hm
