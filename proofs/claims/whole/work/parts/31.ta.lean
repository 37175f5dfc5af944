def t_X12_four_3  : Nat → r_S → Int32 → Int32 → Option r_S
  | 0, _, _, _ => none
  | n + 1, σ, x1, x2 =>
    if x2 < 0 then
      some σ
    else
      let v2 := r_I σ 1
      (t_si 400 σ 0 v2 (vp_nar .byte (((x1 >>> (x2 &&& 31))).toInt8.toInt32))).bind fun σ3 =>
      let v4 := r_I σ3 1
      let σ5 := r_si σ3 1 (v4 + (1 : Int32))
      t_X12_four_3 n σ5 x1 ((x2 + (-8 : Int32)))
set_option maxRecDepth 20000 in
theorem l_X12_four_3 (b : Nat) (h0 : q_H) {s' : r_S} : ∀ (n : Nat) (σ : r_S) (x1 : Int32) (x2 : Int32), t_X12_four_3 n σ x1 x2 = some s' → m_X12_four_3 n (r_H b σ h0) b x1 x2 = some (r_H b s' h0) := by
  intro n
  induction n with
  | zero => intro σ x1 x2 hm; cases hm
  | succ n ih =>
    intro σ x1 x2 hm
    unfold t_X12_four_3 at hm
    unfold m_X12_four_3
    refine r_if _ _ hm (fun _ hm => ?_) (fun _ hm => ?_)
    · exact r_retV hm
    · refine r_gn_0 ?_
      refine r_gi_1 ?_
      refine r_as_0 hm (fun σ3 hm => ?_)
      refine r_gi_1 ?_
      refine r_pi_1 ?_
      exact ih _ _ _ hm
def t_X12_four (σ : r_S) (a1 : Int32) : Option r_S :=
  t_X12_four_3 q_fu σ a1 ((24 : Int32))
set_option maxRecDepth 20000 in
theorem l_X12_four (b : Nat) (h0 : q_H) (σ : r_S) (a1 : Int32) {s' : r_S} (hm : t_X12_four σ a1 = some s') : m_X12_four (r_H b σ h0) b a1 = some (r_H b s' h0) := by
  unfold t_X12_four at hm
  unfold m_X12_four
  exact l_X12_four_3 _ _ _ _ _ _ hm
def t_X12_feed (σ : r_S) (a1 : Int32) (a2 : Int32) (a3 : Int32) (a4 : Int32) (a5 : Int32) : Option (Int32 × r_S) :=
  let v1 := r_I σ 1
  if (v1 + (20 : Int32)) ≤ (400 : Int32) then
    (t_X12_four σ a1).bind fun σ3 =>
    (t_X12_four σ3 a2).bind fun σ5 =>
    (t_X12_four σ5 a3).bind fun σ7 =>
    (t_X12_four σ7 a4).bind fun σ9 =>
    (t_X12_four σ9 a5).bind fun σ11 =>
    let v12 := r_I σ11 1
    some (v12, σ11)
  else
    some ((-1 : Int32), σ)
set_option maxRecDepth 20000 in
theorem l_X12_feed (b : Nat) (h0 : q_H) (σ : r_S) (a1 : Int32) (a2 : Int32) (a3 : Int32) (a4 : Int32) (a5 : Int32) {r : Int32} {s' : r_S} (hm : t_X12_feed σ a1 a2 a3 a4 a5 = some (r, s')) : m_X12_feed (r_H b σ h0) b a1 a2 a3 a4 a5 = some (r, r_H b s' h0) := by
  unfold t_X12_feed at hm
  unfold m_X12_feed
  refine r_gi_1 ?_
  refine r_if _ _ hm (fun _ hm => ?_) (fun _ hm => ?_)
  · refine r_cV (fun s9 e9 => l_X12_four _ _ _ _ e9) hm (fun σ3 hm => ?_)
    refine r_cV (fun s9 e9 => l_X12_four _ _ _ _ e9) hm (fun σ5 hm => ?_)
    refine r_cV (fun s9 e9 => l_X12_four _ _ _ _ e9) hm (fun σ7 hm => ?_)
    refine r_cV (fun s9 e9 => l_X12_four _ _ _ _ e9) hm (fun σ9 hm => ?_)
    refine r_cV (fun s9 e9 => l_X12_four _ _ _ _ e9) hm (fun σ11 hm => ?_)
    refine r_gi_1 ?_
    exact r_retS hm
  · exact r_retS hm
def t_X12_end (σ : r_S) (a1 : Int32) : Option (Int32 × r_S) :=
  if a1 < 0 then
    some ((-1 : Int32), σ)
  else
    let v1 := r_I σ 1
    if a1 ≤ v1 then
      let σ2 := r_si σ 1 (a1)
      some (a1, σ2)
    else
      some ((-1 : Int32), σ)
set_option maxRecDepth 20000 in
theorem l_X12_end (b : Nat) (h0 : q_H) (σ : r_S) (a1 : Int32) {r : Int32} {s' : r_S} (hm : t_X12_end σ a1 = some (r, s')) : m_X12_end (r_H b σ h0) b a1 = some (r, r_H b s' h0) := by
  unfold t_X12_end at hm
  unfold m_X12_end
  refine r_if _ _ hm (fun _ hm => ?_) (fun _ hm => ?_)
  · exact r_retS hm
  · refine r_gi_1 ?_
    refine r_if _ _ hm (fun _ hm => ?_) (fun _ hm => ?_)
    · refine r_pi_1 ?_
      exact r_retS hm
    · exact r_retS hm
def t_X12_fails (σ : r_S) (a1 : Int32) (a2 : Int32) : Option (Int32 × r_S) :=
  let v1 := r_I σ 9
  if v1 = 0 then
    let σ2 := r_si σ 9 (((1 : Int32) + ((8 : Int32) * a2)) + a1)
    some ((0 : Int32), σ2)
  else
    some ((0 : Int32), σ)
set_option maxRecDepth 20000 in
theorem l_X12_fails (b : Nat) (h0 : q_H) (σ : r_S) (a1 : Int32) (a2 : Int32) {r : Int32} {s' : r_S} (hm : t_X12_fails σ a1 a2 = some (r, s')) : m_X12_fails (r_H b σ h0) b a1 a2 = some (r, r_H b s' h0) := by
  unfold t_X12_fails at hm
  unfold m_X12_fails
  refine r_gi_9 ?_
  refine r_if _ _ hm (fun _ hm => ?_) (fun _ hm => ?_)
  · refine r_pi_9 ?_
    exact r_retS hm
  · exact r_retS hm
def t_X12_see_38 (σ : r_S) : Option (Int32 × r_S) :=
  let v8 := r_I σ 8
  let v9 := r_I σ 1
  if v9 ≤ v8 then
    some ((-1 : Int32), σ)
  else
    let v11 := r_I σ 8
    (t_ai 400 (r_A σ 0) v11).bind fun v12 =>
    some ((v12 &&& (255 : Int32)), σ)
set_option maxRecDepth 20000 in
theorem l_X12_see_38 (b : Nat) (h0 : q_H) {r : Int32} {s' : r_S} : ∀ (σ : r_S), t_X12_see_38 σ = some (r, s') → m_X12_see_38 (r_H b σ h0) b = some (r, r_H b s' h0) := by
  intro σ hm
  unfold t_X12_see_38 at hm
  unfold m_X12_see_38
  refine r_gi_8 ?_
  refine r_gi_1 ?_
  refine r_if _ _ hm (fun _ hm => ?_) (fun _ hm => ?_)
  · exact r_retS hm
  · refine r_gn_0 ?_
    refine r_gi_8 ?_
    refine r_ai_0 hm (fun v12 hm => ?_)
    exact r_retS hm
def t_X12_see_0  : Nat → r_S → Option (Int32 × r_S)
  | 0, _ => none
  | n + 1, σ =>
    let v1 := r_I σ 8
    let v2 := r_I σ 1
    if v2 ≤ v1 then
      t_X12_see_38 σ
    else
      let v4 := r_I σ 8
      (t_ai 400 (r_A σ 0) v4).bind fun v5 =>
      if v5 = (32 : Int32) then
        let v6 := r_I σ 8
        let σ7 := r_si σ 8 (v6 + (1 : Int32))
        t_X12_see_0 n σ7
      else
        t_X12_see_38 σ
set_option maxRecDepth 20000 in
theorem l_X12_see_0 (b : Nat) (h0 : q_H) {r : Int32} {s' : r_S} : ∀ (n : Nat) (σ : r_S), t_X12_see_0 n σ = some (r, s') → m_X12_see_0 n (r_H b σ h0) b = some (r, r_H b s' h0) := by
  intro n
  induction n with
  | zero => intro σ hm; cases hm
  | succ n ih =>
    intro σ hm
    unfold t_X12_see_0 at hm
    unfold m_X12_see_0
    refine r_gi_8 ?_
    refine r_gi_1 ?_
    refine r_if _ _ hm (fun _ hm => ?_) (fun _ hm => ?_)
    · exact l_X12_see_38 _ _ _ hm
    · refine r_gn_0 ?_
      refine r_gi_8 ?_
      refine r_ai_0 hm (fun v5 hm => ?_)
      refine r_if _ _ hm (fun _ hm => ?_) (fun _ hm => ?_)
      · refine r_gi_8 ?_
        refine r_pi_8 ?_
        exact ih _ hm
      · exact l_X12_see_38 _ _ _ hm
def t_X12_see (σ : r_S) : Option (Int32 × r_S) :=
  t_X12_see_0 q_fu σ
set_option maxRecDepth 20000 in
theorem l_X12_see (b : Nat) (h0 : q_H) (σ : r_S)  {r : Int32} {s' : r_S} (hm : t_X12_see σ = some (r, s')) : m_X12_see (r_H b σ h0) b = some (r, r_H b s' h0) := by
  unfold t_X12_see at hm
  unfold m_X12_see
  exact l_X12_see_0 _ _ _ _ hm
def t_X12_isDigit (σ0 : r_S) (a1 : Int32) : Option Int32 :=
  let v1 := r_I σ0 1
  if v1 ≤ a1 then
    some ((0 : Int32))
  else
    (t_ai 400 (r_A σ0 0) a1).bind fun v3 =>
    if v3 < (48 : Int32) then
      some ((0 : Int32))
    else
      (t_ai 400 (r_A σ0 0) a1).bind fun v5 =>
      if (57 : Int32) < v5 then
        some ((0 : Int32))
      else
        some ((1 : Int32))
set_option maxRecDepth 20000 in
theorem l_X12_isDigit (b : Nat) (h0 : q_H) (σ0 : r_S) (a1 : Int32) {r : Int32} (hm : t_X12_isDigit σ0 a1 = some r) : m_X12_isDigit (r_H b σ0 h0) b a1 = some r := by
  unfold t_X12_isDigit at hm
  unfold m_X12_isDigit
  refine r_gi_1 ?_
  refine r_if _ _ hm (fun _ hm => ?_) (fun _ hm => ?_)
  · exact hm
  · refine r_gn_0 ?_
    refine r_ai_0 hm (fun v3 hm => ?_)
    refine r_if _ _ hm (fun _ hm => ?_) (fun _ hm => ?_)
    · exact hm
    · refine r_gn_0 ?_
      refine r_ai_0 hm (fun v5 hm => ?_)
      refine r_if _ _ hm (fun _ hm => ?_) (fun _ hm => ?_)
      · exact hm
      · exact hm
def t_X12_isLetter (σ0 : r_S) (a1 : Int32) : Option Int32 :=
  let v1 := r_I σ0 1
  if v1 ≤ a1 then
    some ((0 : Int32))
  else
    (t_ai 400 (r_A σ0 0) a1).bind fun v3 =>
    if v3 < (97 : Int32) then
      some ((0 : Int32))
    else
      (t_ai 400 (r_A σ0 0) a1).bind fun v5 =>
      if (122 : Int32) < v5 then
        some ((0 : Int32))
      else
        some ((1 : Int32))
set_option maxRecDepth 20000 in
theorem l_X12_isLetter (b : Nat) (h0 : q_H) (σ0 : r_S) (a1 : Int32) {r : Int32} (hm : t_X12_isLetter σ0 a1 = some r) : m_X12_isLetter (r_H b σ0 h0) b a1 = some r := by
  unfold t_X12_isLetter at hm
  unfold m_X12_isLetter
  refine r_gi_1 ?_
  refine r_if _ _ hm (fun _ hm => ?_) (fun _ hm => ?_)
  · exact hm
  · refine r_gn_0 ?_
    refine r_ai_0 hm (fun v3 hm => ?_)
    refine r_if _ _ hm (fun _ hm => ?_) (fun _ hm => ?_)
    · exact hm
    · refine r_gn_0 ?_
      refine r_ai_0 hm (fun v5 hm => ?_)
      refine r_if _ _ hm (fun _ hm => ?_) (fun _ hm => ?_)
      · exact hm
      · exact hm
def t_X12_isWord_50 (k10 : r_S → Int64 → Int64 → Int32 → Option (Int32 × r_S)) (σ : r_S) (x1 : Int64) (x3 : Int64) (x5 : Int32) : Option (Int32 × r_S) :=
  k10 σ x1 x3 ((x5 + (1 : Int32)))
set_option maxRecDepth 20000 in
theorem l_X12_isWord_50 (b : Nat) (h0 : q_H) {r : Int32} {s' : r_S} {k10 : r_S → Int64 → Int64 → Int32 → Option (Int32 × r_S)} {gk10 : q_H → Nat → Int64 → Int64 → Int32 → Option (Int32 × q_H)} (hk10 : ∀ (σ : r_S) (x1 : Int64) (x3 : Int64) (x5 : Int32), k10 σ x1 x3 x5 = some (r, s') → gk10 (r_H b σ h0) b x1 x3 x5 = some (r, r_H b s' h0)) : ∀ (σ : r_S) (x1 : Int64) (x3 : Int64) (x5 : Int32), t_X12_isWord_50 k10 σ x1 x3 x5 = some (r, s') → m_X12_isWord_50 gk10 (r_H b σ h0) b x1 x3 x5 = some (r, r_H b s' h0) := by
  intro σ x1 x3 x5 hm
  unfold t_X12_isWord_50 at hm
  unfold m_X12_isWord_50
  exact hk10 _ _ _ _ hm
def t_X12_isWord_10  : Nat → r_S → Int64 → Int64 → Int32 → Option (Int32 × r_S)
  | 0, _, _, _, _ => none
  | n + 1, σ, x1, x3, x5 =>
    let v4 := r_I σ 8
    (t_X12_isLetter σ ((v4 + x5))).bind fun r5 =>
    if r5 = 0 then
      if x5 ≤ 0 then
        some ((0 : Int32), σ)
      else
        if (8 : Int32) ≤ x5 then
          some ((0 : Int32), σ)
        else
          if (lg_cmp x3 x1) = 0 then
            some ((1 : Int32), σ)
          else
            some ((0 : Int32), σ)
    else
      if (8 : Int32) ≤ x5 then
        t_X12_isWord_50 (t_X12_isWord_10 n) σ x1 x3 x5
      else
        let v8 := r_I σ 8
        (t_ai 400 (r_A σ 0) ((v8 + x5))).bind fun v9 =>
        t_X12_isWord_50 (t_X12_isWord_10 n) σ x1 (((x3 <<< (((8 : Int32)).toInt64 &&& 63)) ||| v9.toInt64)) x5
set_option maxRecDepth 20000 in
theorem l_X12_isWord_10 (b : Nat) (h0 : q_H) {r : Int32} {s' : r_S} : ∀ (n : Nat) (σ : r_S) (x1 : Int64) (x3 : Int64) (x5 : Int32), t_X12_isWord_10 n σ x1 x3 x5 = some (r, s') → m_X12_isWord_10 n (r_H b σ h0) b x1 x3 x5 = some (r, r_H b s' h0) := by
  intro n
  induction n with
  | zero => intro σ x1 x3 x5 hm; cases hm
  | succ n ih =>
    intro σ x1 x3 x5 hm
    unfold t_X12_isWord_10 at hm
    unfold m_X12_isWord_10
    refine r_gi_8 ?_
    refine r_cP (fun r9 e9 => l_X12_isLetter _ _ _ _ e9) hm (fun r5 hm => ?_)
    refine r_if _ _ hm (fun _ hm => ?_) (fun _ hm => ?_)
    · refine r_if _ _ hm (fun _ hm => ?_) (fun _ hm => ?_)
      · exact r_retS hm
      · refine r_if _ _ hm (fun _ hm => ?_) (fun _ hm => ?_)
        · exact r_retS hm
        · refine r_if _ _ hm (fun _ hm => ?_) (fun _ hm => ?_)
          · exact r_retS hm
          · exact r_retS hm
    · refine r_if _ _ hm (fun _ hm => ?_) (fun _ hm => ?_)
      · exact l_X12_isWord_50 _ _ ih _ _ _ _ hm
      · refine r_gn_0 ?_
        refine r_gi_8 ?_
        refine r_ai_0 hm (fun v9 hm => ?_)
        exact l_X12_isWord_50 _ _ ih _ _ _ _ hm
def t_X12_isWord (σ : r_S) (a1 : Int64) : Option (Int32 × r_S) :=
  (t_X12_see σ).bind fun (r1, σ2) =>
  t_X12_isWord_10 q_fu σ2 a1 ((0 : Int64)) ((0 : Int32))
set_option maxRecDepth 20000 in
theorem l_X12_isWord (b : Nat) (h0 : q_H) (σ : r_S) (a1 : Int64) {r : Int32} {s' : r_S} (hm : t_X12_isWord σ a1 = some (r, s')) : m_X12_isWord (r_H b σ h0) b a1 = some (r, r_H b s' h0) := by
  unfold t_X12_isWord at hm
  unfold m_X12_isWord
  refine r_cS (fun r9 s9 e9 => l_X12_see _ _ _  e9) hm (fun r1 σ2 hm => ?_)
  exact l_X12_isWord_10 _ _ _ _ _ _ _ hm
def t_X12_passWord_0  : Nat → r_S → Option r_S
  | 0, _ => none
  | n + 1, σ =>
    let v1 := r_I σ 8
    (t_X12_isLetter σ v1).bind fun r2 =>
    if r2 = 0 then
      some σ
    else
      let v4 := r_I σ 8
      let σ5 := r_si σ 8 (v4 + (1 : Int32))
      t_X12_passWord_0 n σ5
set_option maxRecDepth 20000 in
theorem l_X12_passWord_0 (b : Nat) (h0 : q_H) {s' : r_S} : ∀ (n : Nat) (σ : r_S), t_X12_passWord_0 n σ = some s' → m_X12_passWord_0 n (r_H b σ h0) b = some (r_H b s' h0) := by
  intro n
  induction n with
  | zero => intro σ hm; cases hm
  | succ n ih =>
    intro σ hm
    unfold t_X12_passWord_0 at hm
    unfold m_X12_passWord_0
    refine r_gi_8 ?_
    refine r_cP (fun r9 e9 => l_X12_isLetter _ _ _ _ e9) hm (fun r2 hm => ?_)
    refine r_if _ _ hm (fun _ hm => ?_) (fun _ hm => ?_)
    · exact r_retV hm
    · refine r_gi_8 ?_
      refine r_pi_8 ?_
      exact ih _ hm
def t_X12_passWord (σ : r_S) : Option r_S :=
  t_X12_passWord_0 q_fu σ
set_option maxRecDepth 20000 in
theorem l_X12_passWord (b : Nat) (h0 : q_H) (σ : r_S)  {s' : r_S} (hm : t_X12_passWord σ = some s') : m_X12_passWord (r_H b σ h0) b = some (r_H b s' h0) := by
  unfold t_X12_passWord at hm
  unfold m_X12_passWord
  exact l_X12_passWord_0 _ _ _ _ hm
def t_X12_takesWord (σ : r_S) (a1 : Int64) : Option (Int32 × r_S) :=
  (t_X12_isWord σ a1).bind fun (r1, σ2) =>
  if r1 = 0 then
    some ((0 : Int32), σ2)
  else
    (t_X12_passWord σ2).bind fun σ5 =>
    some ((1 : Int32), σ5)
set_option maxRecDepth 20000 in
theorem l_X12_takesWord (b : Nat) (h0 : q_H) (σ : r_S) (a1 : Int64) {r : Int32} {s' : r_S} (hm : t_X12_takesWord σ a1 = some (r, s')) : m_X12_takesWord (r_H b σ h0) b a1 = some (r, r_H b s' h0) := by
  unfold t_X12_takesWord at hm
  unfold m_X12_takesWord
  refine r_cS (fun r9 s9 e9 => l_X12_isWord _ _ _ _ e9) hm (fun r1 σ2 hm => ?_)
  refine r_if _ _ hm (fun _ hm => ?_) (fun _ hm => ?_)
  · exact r_retS hm
  · refine r_cV (fun s9 e9 => l_X12_passWord _ _ _  e9) hm (fun σ5 hm => ?_)
    exact r_retS hm
def t_X12_numberHere_75 (k34 : r_S → Int32 → Int32 → Int32 → Int32 → Option (Int32 × r_S)) (σ : r_S) (x1 : Int32) (x2 : Int32) (x3 : Int32) (x4 : Int32) : Option (Int32 × r_S) :=
  let v23 := r_I σ 8
  let σ24 := r_si σ 8 (v23 + (1 : Int32))
  k34 σ24 x1 x2 x3 x4
set_option maxRecDepth 20000 in
theorem l_X12_numberHere_75 (b : Nat) (h0 : q_H) {r : Int32} {s' : r_S} {k34 : r_S → Int32 → Int32 → Int32 → Int32 → Option (Int32 × r_S)} {gk34 : q_H → Nat → Int32 → Int32 → Int32 → Int32 → Option (Int32 × q_H)} (hk34 : ∀ (σ : r_S) (x1 : Int32) (x2 : Int32) (x3 : Int32) (x4 : Int32), k34 σ x1 x2 x3 x4 = some (r, s') → gk34 (r_H b σ h0) b x1 x2 x3 x4 = some (r, r_H b s' h0)) : ∀ (σ : r_S) (x1 : Int32) (x2 : Int32) (x3 : Int32) (x4 : Int32), t_X12_numberHere_75 k34 σ x1 x2 x3 x4 = some (r, s') → m_X12_numberHere_75 gk34 (r_H b σ h0) b x1 x2 x3 x4 = some (r, r_H b s' h0) := by
  intro σ x1 x2 x3 x4 hm
  unfold t_X12_numberHere_75 at hm
  unfold m_X12_numberHere_75
  refine r_gi_8 ?_
  refine r_pi_8 ?_
  exact hk34 _ _ _ _ _ hm
def t_X12_numberHere_117 (σ : r_S) (x3 : Int32) : Option (Int32 × r_S) :=
  (t_X12_fails σ ((1 : Int32)) x3).bind fun (r25, σ26) =>
  if r25 = 0 then
    some ((0 : Int32), σ26)
  else
    some ((1 : Int32), σ26)
set_option maxRecDepth 20000 in
theorem l_X12_numberHere_117 (b : Nat) (h0 : q_H) {r : Int32} {s' : r_S} : ∀ (σ : r_S) (x3 : Int32), t_X12_numberHere_117 σ x3 = some (r, s') → m_X12_numberHere_117 (r_H b σ h0) b x3 = some (r, r_H b s' h0) := by
  intro σ x3 hm
  unfold t_X12_numberHere_117 at hm
  unfold m_X12_numberHere_117
  refine r_cS (fun r9 s9 e9 => l_X12_fails _ _ _ _ _ e9) hm (fun r25 σ26 hm => ?_)
  refine r_if _ _ hm (fun _ hm => ?_) (fun _ hm => ?_)
  · exact r_retS hm
  · exact r_retS hm
def t_X12_numberHere_34  : Nat → r_S → Int32 → Int32 → Int32 → Int32 → Option (Int32 × r_S)
  | 0, _, _, _, _, _ => none
  | n + 1, σ, x1, x2, x3, x4 =>
    let v12 := r_I σ 8
    (t_X12_isDigit σ v12).bind fun r13 =>
    if r13 = 0 then
      let σ15 := r_si σ 10 (x4)
      let v16 := r_I σ15 8
      if (5 : Int32) < (v16 - x3) then
        t_X12_numberHere_117 σ15 x3
      else
        (m_X12_in x4.toInt64 x1.toInt64 x2.toInt64).bind fun r17 =>
        if r17 = 0 then
          t_X12_numberHere_117 σ15 x3
        else
          some ((1 : Int32), σ15)
    else
      let v19 := r_I σ 8
      if (5 : Int32) ≤ (v19 - x3) then
        t_X12_numberHere_75 (t_X12_numberHere_34 n) σ x1 x2 x3 x4
      else
        let v21 := r_I σ 8
        (t_ai 400 (r_A σ 0) v21).bind fun v22 =>
        t_X12_numberHere_75 (t_X12_numberHere_34 n) σ x1 x2 x3 (((((10 : Int32) * x4) + v22) - (48 : Int32)))
set_option maxRecDepth 20000 in
theorem l_X12_numberHere_34 (b : Nat) (h0 : q_H) {r : Int32} {s' : r_S} : ∀ (n : Nat) (σ : r_S) (x1 : Int32) (x2 : Int32) (x3 : Int32) (x4 : Int32), t_X12_numberHere_34 n σ x1 x2 x3 x4 = some (r, s') → m_X12_numberHere_34 n (r_H b σ h0) b x1 x2 x3 x4 = some (r, r_H b s' h0) := by
  intro n
  induction n with
  | zero => intro σ x1 x2 x3 x4 hm; cases hm
  | succ n ih =>
    intro σ x1 x2 x3 x4 hm
    unfold t_X12_numberHere_34 at hm
    unfold m_X12_numberHere_34
    refine r_gi_8 ?_
    refine r_cP (fun r9 e9 => l_X12_isDigit _ _ _ _ e9) hm (fun r13 hm => ?_)
    refine r_if _ _ hm (fun _ hm => ?_) (fun _ hm => ?_)
    · refine r_pi_10 ?_
      refine r_gi_8 ?_
      refine r_if _ _ hm (fun _ hm => ?_) (fun _ hm => ?_)
      · exact l_X12_numberHere_117 _ _ _ _ hm
      · refine r_bd hm (fun r17 hm => ?_)
        refine r_if _ _ hm (fun _ hm => ?_) (fun _ hm => ?_)
        · exact l_X12_numberHere_117 _ _ _ _ hm
        · exact r_retS hm
    · refine r_gi_8 ?_
      refine r_if _ _ hm (fun _ hm => ?_) (fun _ hm => ?_)
      · exact l_X12_numberHere_75 _ _ ih _ _ _ _ _ hm
      · refine r_gn_0 ?_
        refine r_gi_8 ?_
        refine r_ai_0 hm (fun v22 hm => ?_)
        exact l_X12_numberHere_75 _ _ ih _ _ _ _ _ hm
def t_X12_numberHere (σ : r_S) (a1 : Int32) (a2 : Int32) : Option (Int32 × r_S) :=
  (t_X12_see σ).bind fun (r1, σ2) =>
  let v4 := r_I σ2 8
  (t_X12_isDigit σ2 v4).bind fun r5 =>
  if r5 = 0 then
    let v8 := r_I σ2 8
    (t_X12_fails σ2 ((0 : Int32)) v8).bind fun (r9, σ10) =>
    some (r9, σ10)
  else
    let v7 := r_I σ2 8
    t_X12_numberHere_34 q_fu σ2 a1 a2 v7 ((0 : Int32))
set_option maxRecDepth 20000 in
theorem l_X12_numberHere (b : Nat) (h0 : q_H) (σ : r_S) (a1 : Int32) (a2 : Int32) {r : Int32} {s' : r_S} (hm : t_X12_numberHere σ a1 a2 = some (r, s')) : m_X12_numberHere (r_H b σ h0) b a1 a2 = some (r, r_H b s' h0) := by
  unfold t_X12_numberHere at hm
  unfold m_X12_numberHere
  refine r_cS (fun r9 s9 e9 => l_X12_see _ _ _  e9) hm (fun r1 σ2 hm => ?_)
  refine r_gi_8 ?_
  refine r_cP (fun r9 e9 => l_X12_isDigit _ _ _ _ e9) hm (fun r5 hm => ?_)
  refine r_if _ _ hm (fun _ hm => ?_) (fun _ hm => ?_)
  · refine r_gi_8 ?_
    refine r_cS (fun r9 s9 e9 => l_X12_fails _ _ _ _ _ e9) hm (fun r9 σ10 hm => ?_)
    exact r_retS hm
  · refine r_gi_8 ?_
    exact l_X12_numberHere_34 _ _ _ _ _ _ _ _ hm
def t_X12_wordHere (σ : r_S) : Option (Int32 × r_S) :=
  (t_X12_isWord σ ((123649632527730 : Int64))).bind fun (r1, σ2) =>
  if r1 = 0 then
    (t_X12_isWord σ2 ((1936286821 : Int64))).bind fun (r4, σ5) =>
    if r4 = 0 then
      (t_X12_isWord σ5 ((126943973305959 : Int64))).bind fun (r7, σ8) =>
      if r7 = 0 then
        (t_X12_isWord σ8 ((2003398244 : Int64))).bind fun (r10, σ11) =>
        if r10 = 0 then
          (t_X12_isWord σ11 ((422776370291 : Int64))).bind fun (r13, σ14) =>
          if r13 = 0 then
            (t_X12_isWord σ14 ((482854658917 : Int64))).bind fun (r16, σ17) =>
            if r16 = 0 then
              (t_X12_isWord σ17 ((469786453363 : Int64))).bind fun (r19, σ20) =>
              if r19 = 0 then
                (t_X12_isWord σ20 ((125796947750766 : Int64))).bind fun (r22, σ23) =>
                if r22 = 0 then
                  (t_X12_isWord σ23 ((1818848869 : Int64))).bind fun (r25, σ26) =>
                  if r25 = 0 then
                    (t_X12_isWord σ26 ((131320544716132 : Int64))).bind fun (r28, σ29) =>
                    if r28 = 0 then
                      (t_X12_isWord σ29 ((448377484901 : Int64))).bind fun (r31, σ32) =>
                      if r31 = 0 then
                        some ((-1 : Int32), σ32)
                      else
                        some ((10 : Int32), σ32)
                    else
                      some ((9 : Int32), σ29)
                  else
                    some ((8 : Int32), σ26)
                else
                  some ((7 : Int32), σ23)
              else
                some ((6 : Int32), σ20)
            else
              some ((5 : Int32), σ17)
          else
            some ((4 : Int32), σ14)
        else
          some ((3 : Int32), σ11)
      else
        some ((2 : Int32), σ8)
    else
      some ((1 : Int32), σ5)
  else
    some ((0 : Int32), σ2)
set_option maxRecDepth 20000 in
theorem l_X12_wordHere (b : Nat) (h0 : q_H) (σ : r_S)  {r : Int32} {s' : r_S} (hm : t_X12_wordHere σ = some (r, s')) : m_X12_wordHere (r_H b σ h0) b = some (r, r_H b s' h0) := by
  unfold t_X12_wordHere at hm
  unfold m_X12_wordHere
  refine r_cS (fun r9 s9 e9 => l_X12_isWord _ _ _ _ e9) hm (fun r1 σ2 hm => ?_)
  refine r_if _ _ hm (fun _ hm => ?_) (fun _ hm => ?_)
  · refine r_cS (fun r9 s9 e9 => l_X12_isWord _ _ _ _ e9) hm (fun r4 σ5 hm => ?_)
    refine r_if _ _ hm (fun _ hm => ?_) (fun _ hm => ?_)
    · refine r_cS (fun r9 s9 e9 => l_X12_isWord _ _ _ _ e9) hm (fun r7 σ8 hm => ?_)
      refine r_if _ _ hm (fun _ hm => ?_) (fun _ hm => ?_)
      · refine r_cS (fun r9 s9 e9 => l_X12_isWord _ _ _ _ e9) hm (fun r10 σ11 hm => ?_)
        refine r_if _ _ hm (fun _ hm => ?_) (fun _ hm => ?_)
        · refine r_cS (fun r9 s9 e9 => l_X12_isWord _ _ _ _ e9) hm (fun r13 σ14 hm => ?_)
          refine r_if _ _ hm (fun _ hm => ?_) (fun _ hm => ?_)
          · refine r_cS (fun r9 s9 e9 => l_X12_isWord _ _ _ _ e9) hm (fun r16 σ17 hm => ?_)
            refine r_if _ _ hm (fun _ hm => ?_) (fun _ hm => ?_)
            · refine r_cS (fun r9 s9 e9 => l_X12_isWord _ _ _ _ e9) hm (fun r19 σ20 hm => ?_)
              refine r_if _ _ hm (fun _ hm => ?_) (fun _ hm => ?_)
              · refine r_cS (fun r9 s9 e9 => l_X12_isWord _ _ _ _ e9) hm (fun r22 σ23 hm => ?_)
                refine r_if _ _ hm (fun _ hm => ?_) (fun _ hm => ?_)
                · refine r_cS (fun r9 s9 e9 => l_X12_isWord _ _ _ _ e9) hm (fun r25 σ26 hm => ?_)
                  refine r_if _ _ hm (fun _ hm => ?_) (fun _ hm => ?_)
                  · refine r_cS (fun r9 s9 e9 => l_X12_isWord _ _ _ _ e9) hm (fun r28 σ29 hm => ?_)
                    refine r_if _ _ hm (fun _ hm => ?_) (fun _ hm => ?_)
                    · refine r_cS (fun r9 s9 e9 => l_X12_isWord _ _ _ _ e9) hm (fun r31 σ32 hm => ?_)
                      refine r_if _ _ hm (fun _ hm => ?_) (fun _ hm => ?_)
                      · exact r_retS hm
                      · exact r_retS hm
                    · exact r_retS hm
                  · exact r_retS hm
                · exact r_retS hm
              · exact r_retS hm
            · exact r_retS hm
          · exact r_retS hm
        · exact r_retS hm
      · exact r_retS hm
    · exact r_retS hm
  · exact r_retS hm
def t_X12_puts (σ : r_S) (a1 : Int32) (a2 : Int32) : Option r_S :=
  let v2 := r_I σ 11
  let v4 := r_I σ 11
  (t_ai 7 (r_A σ 4) v4).bind fun v5 =>
  (t_si 2400 σ 3 ((((400 : Int32) * v2) + v5)) ((a1 + ((16 : Int32) * a2)))).bind fun σ6 =>
  let v8 := r_I σ6 11
  (t_ai 7 (r_A σ6 4) v8).bind fun v9 =>
  (t_si 7 σ6 4 v8 ((v9 + (1 : Int32)))).bind fun σ10 =>
  some σ10
set_option maxRecDepth 20000 in
theorem l_X12_puts (b : Nat) (h0 : q_H) (σ : r_S) (a1 : Int32) (a2 : Int32) {s' : r_S} (hm : t_X12_puts σ a1 a2 = some s') : m_X12_puts (r_H b σ h0) b a1 a2 = some (r_H b s' h0) := by
  unfold t_X12_puts at hm
  unfold m_X12_puts
  refine r_gn_3 ?_
  refine r_gi_11 ?_
  refine r_gn_4 ?_
  refine r_gi_11 ?_
  refine r_ai_4 hm (fun v5 hm => ?_)
  refine r_as_3 hm (fun σ6 hm => ?_)
  refine r_gn_4 ?_
  refine r_gi_11 ?_
  refine r_ai_4 hm (fun v9 hm => ?_)
  refine r_as_4 hm (fun σ10 hm => ?_)
  exact r_retV hm
def t_X12_makes (σ : r_S) (a1 : Int32) : Option (Int32 × r_S) :=
  let v1 := r_I σ 12
  if v1 = (60 : Int32) then
    (t_X12_fails σ ((3 : Int32)) a1).bind fun (r4, σ5) =>
    some (r4, σ5)
  else
    let v2 := r_I σ 12
    let σ3 := r_si σ 12 (v2 + (1 : Int32))
    some ((1 : Int32), σ3)
set_option maxRecDepth 20000 in
theorem l_X12_makes (b : Nat) (h0 : q_H) (σ : r_S) (a1 : Int32) {r : Int32} {s' : r_S} (hm : t_X12_makes σ a1 = some (r, s')) : m_X12_makes (r_H b σ h0) b a1 = some (r, r_H b s' h0) := by
  unfold t_X12_makes at hm
  unfold m_X12_makes
  refine r_gi_12 ?_
  refine r_if _ _ hm (fun _ hm => ?_) (fun _ hm => ?_)
  · refine r_cS (fun r9 s9 e9 => l_X12_fails _ _ _ _ _ e9) hm (fun r4 σ5 hm => ?_)
    exact r_retS hm
  · refine r_gi_12 ?_
    refine r_pi_12 ?_
    exact r_retS hm
def t_X12_opens (σ : r_S) (a1 : Int32) : Option (Int32 × r_S) :=
  let v1 := r_I σ 13
  if v1 = (10 : Int32) then
    let v9 := r_I σ 8
    (t_X12_fails σ ((2 : Int32)) v9).bind fun (r10, σ11) =>
    some (r10, σ11)
  else
    let v2 := r_I σ 13
    let σ3 := r_si σ 13 (v2 + (1 : Int32))
    let v5 := r_I σ3 16
    (t_si 400 σ3 15 v5 a1).bind fun σ6 =>
    let v7 := r_I σ6 16
    let σ8 := r_si σ6 16 (v7 + (1 : Int32))
    some ((1 : Int32), σ8)
set_option maxRecDepth 20000 in
theorem l_X12_opens (b : Nat) (h0 : q_H) (σ : r_S) (a1 : Int32) {r : Int32} {s' : r_S} (hm : t_X12_opens σ a1 = some (r, s')) : m_X12_opens (r_H b σ h0) b a1 = some (r, r_H b s' h0) := by
  unfold t_X12_opens at hm
  unfold m_X12_opens
  refine r_gi_13 ?_
  refine r_if _ _ hm (fun _ hm => ?_) (fun _ hm => ?_)
  · refine r_gi_8 ?_
    refine r_cS (fun r9 s9 e9 => l_X12_fails _ _ _ _ _ e9) hm (fun r10 σ11 hm => ?_)
    exact r_retS hm
  · refine r_gi_13 ?_
    refine r_pi_13 ?_
    refine r_gn_15 ?_
    refine r_gi_16 ?_
    refine r_as_15 hm (fun σ6 hm => ?_)
    refine r_gi_16 ?_
    refine r_pi_16 ?_
    exact r_retS hm
def t_X12_layDown_0  : Nat → r_S → Int32 → Option r_S
  | 0, _, _ => none
  | n + 1, σ, x1 =>
    let v1 := r_I σ 16
    if v1 ≤ 0 then
      some σ
    else
      let v3 := r_I σ 16
      (t_ai 400 (r_A σ 15) ((v3 - (1 : Int32)))).bind fun v4 =>
      (m_X12_strength v4).bind fun r5 =>
      if r5 < x1 then
        some σ
      else
        let v7 := r_I σ 16
        let σ8 := r_si σ 16 (v7 - (1 : Int32))
        let v10 := r_I σ8 16
        (t_ai 400 (r_A σ8 15) v10).bind fun v11 =>
        (t_X12_puts σ8 v11 ((0 : Int32))).bind fun σ13 =>
        let v15 := r_I σ13 16
        (t_ai 400 (r_A σ13 15) v15).bind fun v16 =>
        if v16 = (11 : Int32) then
          let v17 := r_I σ13 13
          let σ18 := r_si σ13 13 (v17 - (1 : Int32))
          t_X12_layDown_0 n σ18 x1
        else
          t_X12_layDown_0 n σ13 x1
set_option maxRecDepth 20000 in
theorem l_X12_layDown_0 (b : Nat) (h0 : q_H) {s' : r_S} : ∀ (n : Nat) (σ : r_S) (x1 : Int32), t_X12_layDown_0 n σ x1 = some s' → m_X12_layDown_0 n (r_H b σ h0) b x1 = some (r_H b s' h0) := by
  intro n
  induction n with
  | zero => intro σ x1 hm; cases hm
  | succ n ih =>
    intro σ x1 hm
    unfold t_X12_layDown_0 at hm
    unfold m_X12_layDown_0
    refine r_gi_16 ?_
    refine r_if _ _ hm (fun _ hm => ?_) (fun _ hm => ?_)
    · exact r_retV hm
    · refine r_gn_15 ?_
      refine r_gi_16 ?_
      refine r_ai_15 hm (fun v4 hm => ?_)
      refine r_bd hm (fun r5 hm => ?_)
      refine r_if _ _ hm (fun _ hm => ?_) (fun _ hm => ?_)
      · exact r_retV hm
      · refine r_gi_16 ?_
        refine r_pi_16 ?_
        refine r_gn_15 ?_
        refine r_gi_16 ?_
        refine r_ai_15 hm (fun v11 hm => ?_)
        refine r_cV (fun s9 e9 => l_X12_puts _ _ _ _ _ e9) hm (fun σ13 hm => ?_)
        refine r_gn_15 ?_
        refine r_gi_16 ?_
        refine r_ai_15 hm (fun v16 hm => ?_)
        refine r_if _ _ hm (fun _ hm => ?_) (fun _ hm => ?_)
        · refine r_gi_13 ?_
          refine r_pi_13 ?_
          exact ih _ _ hm
        · exact ih _ _ hm
def t_X12_layDown (σ : r_S) (a1 : Int32) : Option r_S :=
  t_X12_layDown_0 q_fu σ a1
set_option maxRecDepth 20000 in
theorem l_X12_layDown (b : Nat) (h0 : q_H) (σ : r_S) (a1 : Int32) {s' : r_S} (hm : t_X12_layDown σ a1 = some s') : m_X12_layDown (r_H b σ h0) b a1 = some (r_H b s' h0) := by
  unfold t_X12_layDown at hm
  unfold m_X12_layDown
  exact l_X12_layDown_0 _ _ _ _ _ hm
def t_X12_value (σ : r_S) : Option (Int32 × r_S) :=
  (t_X12_see σ).bind fun (r1, σ2) =>
  let v4 := r_I σ2 8
  let v5 := r_I σ2 8
  (t_X12_isDigit σ2 v5).bind fun r6 =>
  if r6 = 0 then
    (t_X12_wordHere σ2).bind fun (r8, σ9) =>
    if 0 ≤ r8 then
      (t_X12_makes σ9 v4).bind fun (r11, σ12) =>
      if r11 = 0 then
        some ((0 : Int32), σ12)
      else
        (t_X12_passWord σ12).bind fun σ15 =>
        (t_X12_puts σ15 ((1 : Int32)) r8).bind fun σ17 =>
        some ((1 : Int32), σ17)
    else
      (t_X12_fails σ9 ((0 : Int32)) v4).bind fun (r18, σ19) =>
      some (r18, σ19)
  else
    (t_X12_numberHere σ2 ((0 : Int32)) ((99999 : Int32))).bind fun (r21, σ22) =>
    if r21 = 0 then
      some ((0 : Int32), σ22)
    else
      (t_X12_makes σ22 v4).bind fun (r24, σ25) =>
      if r24 = 0 then
        some ((0 : Int32), σ25)
      else
        let v27 := r_I σ25 10
        (t_X12_puts σ25 ((0 : Int32)) v27).bind fun σ29 =>
        some ((1 : Int32), σ29)
set_option maxRecDepth 20000 in
theorem l_X12_value (b : Nat) (h0 : q_H) (σ : r_S)  {r : Int32} {s' : r_S} (hm : t_X12_value σ = some (r, s')) : m_X12_value (r_H b σ h0) b = some (r, r_H b s' h0) := by
  unfold t_X12_value at hm
  unfold m_X12_value
  refine r_cS (fun r9 s9 e9 => l_X12_see _ _ _  e9) hm (fun r1 σ2 hm => ?_)
  refine r_gi_8 ?_
  refine r_gi_8 ?_
  refine r_cP (fun r9 e9 => l_X12_isDigit _ _ _ _ e9) hm (fun r6 hm => ?_)
  refine r_if _ _ hm (fun _ hm => ?_) (fun _ hm => ?_)
  · refine r_cS (fun r9 s9 e9 => l_X12_wordHere _ _ _  e9) hm (fun r8 σ9 hm => ?_)
    refine r_if _ _ hm (fun _ hm => ?_) (fun _ hm => ?_)
    · refine r_cS (fun r9 s9 e9 => l_X12_makes _ _ _ _ e9) hm (fun r11 σ12 hm => ?_)
      refine r_if _ _ hm (fun _ hm => ?_) (fun _ hm => ?_)
      · exact r_retS hm
      · refine r_cV (fun s9 e9 => l_X12_passWord _ _ _  e9) hm (fun σ15 hm => ?_)
        refine r_cV (fun s9 e9 => l_X12_puts _ _ _ _ _ e9) hm (fun σ17 hm => ?_)
        exact r_retS hm
    · refine r_cS (fun r9 s9 e9 => l_X12_fails _ _ _ _ _ e9) hm (fun r18 σ19 hm => ?_)
      exact r_retS hm
  · refine r_cS (fun r9 s9 e9 => l_X12_numberHere _ _ _ _ _ e9) hm (fun r21 σ22 hm => ?_)
    refine r_if _ _ hm (fun _ hm => ?_) (fun _ hm => ?_)
    · exact r_retS hm
    · refine r_cS (fun r9 s9 e9 => l_X12_makes _ _ _ _ e9) hm (fun r24 σ25 hm => ?_)
      refine r_if _ _ hm (fun _ hm => ?_) (fun _ hm => ?_)
      · exact r_retS hm
      · refine r_gi_10 ?_
        refine r_cV (fun s9 e9 => l_X12_puts _ _ _ _ _ e9) hm (fun σ29 hm => ?_)
        exact r_retS hm
def t_X12_term_74 (k9 : r_S → Option (Int32 × r_S)) (σ : r_S) (s0 : Int32) : Option (Int32 × r_S) :=
  let v19 := r_I σ 8
  let σ20 := r_si σ 8 (v19 + (1 : Int32))
  (t_X12_value σ20).bind fun (r21, σ22) =>
  if r21 = 0 then
    some ((0 : Int32), σ22)
  else
    (t_X12_puts σ22 s0 ((0 : Int32))).bind fun σ25 =>
    k9 σ25
set_option maxRecDepth 20000 in
theorem l_X12_term_74 (b : Nat) (h0 : q_H) {r : Int32} {s' : r_S} {k9 : r_S → Option (Int32 × r_S)} {gk9 : q_H → Nat → Option (Int32 × q_H)} (hk9 : ∀ (σ : r_S), k9 σ = some (r, s') → gk9 (r_H b σ h0) b = some (r, r_H b s' h0)) : ∀ (σ : r_S) (s0 : Int32), t_X12_term_74 k9 σ s0 = some (r, s') → m_X12_term_74 gk9 (r_H b σ h0) b s0 = some (r, r_H b s' h0) := by
  intro σ s0 hm
  unfold t_X12_term_74 at hm
  unfold m_X12_term_74
  refine r_gi_8 ?_
  refine r_pi_8 ?_
  refine r_cS (fun r9 s9 e9 => l_X12_value _ _ _  e9) hm (fun r21 σ22 hm => ?_)
  refine r_if _ _ hm (fun _ hm => ?_) (fun _ hm => ?_)
  · exact r_retS hm
  · refine r_cV (fun s9 e9 => l_X12_puts _ _ _ _ _ e9) hm (fun σ25 hm => ?_)
    exact hk9 _ hm
def t_X12_term_36 (k9 : r_S → Option (Int32 × r_S)) (σ : r_S) : Option (Int32 × r_S) :=
  let v14 := r_I σ 8
  (t_ai 400 (r_A σ 0) v14).bind fun v15 =>
  if v15 = (42 : Int32) then
    t_X12_term_74 k9 σ ((4 : Int32))
  else
    let v17 := r_I σ 8
    (t_ai 400 (r_A σ 0) v17).bind fun v18 =>
    if v18 = (47 : Int32) then
      t_X12_term_74 k9 σ ((5 : Int32))
    else
      t_X12_term_74 k9 σ ((14 : Int32))
set_option maxRecDepth 20000 in
theorem l_X12_term_36 (b : Nat) (h0 : q_H) {r : Int32} {s' : r_S} {k9 : r_S → Option (Int32 × r_S)} {gk9 : q_H → Nat → Option (Int32 × q_H)} (hk9 : ∀ (σ : r_S), k9 σ = some (r, s') → gk9 (r_H b σ h0) b = some (r, r_H b s' h0)) : ∀ (σ : r_S), t_X12_term_36 k9 σ = some (r, s') → m_X12_term_36 gk9 (r_H b σ h0) b = some (r, r_H b s' h0) := by
  intro σ hm
  unfold t_X12_term_36 at hm
  unfold m_X12_term_36
  refine r_gn_0 ?_
  refine r_gi_8 ?_
  refine r_ai_0 hm (fun v15 hm => ?_)
  refine r_if _ _ hm (fun _ hm => ?_) (fun _ hm => ?_)
  · exact l_X12_term_74 _ _ hk9 _ _ hm
  · refine r_gn_0 ?_
    refine r_gi_8 ?_
    refine r_ai_0 hm (fun v18 hm => ?_)
    refine r_if _ _ hm (fun _ hm => ?_) (fun _ hm => ?_)
    · exact l_X12_term_74 _ _ hk9 _ _ hm
    · exact l_X12_term_74 _ _ hk9 _ _ hm
def t_X12_term_9  : Nat → r_S → Option (Int32 × r_S)
  | 0, _ => none
  | n + 1, σ =>
    (t_X12_see σ).bind fun (r4, σ5) =>
    if r4 = (42 : Int32) then
      t_X12_term_36 (t_X12_term_9 n) σ5
    else
      (t_X12_see σ5).bind fun (r7, σ8) =>
      if r7 = (47 : Int32) then
        t_X12_term_36 (t_X12_term_9 n) σ8
      else
        (t_X12_see σ8).bind fun (r10, σ11) =>
        if r10 = (37 : Int32) then
          t_X12_term_36 (t_X12_term_9 n) σ11
        else
          some ((1 : Int32), σ11)
set_option maxRecDepth 20000 in
theorem l_X12_term_9 (b : Nat) (h0 : q_H) {r : Int32} {s' : r_S} : ∀ (n : Nat) (σ : r_S), t_X12_term_9 n σ = some (r, s') → m_X12_term_9 n (r_H b σ h0) b = some (r, r_H b s' h0) := by
  intro n
  induction n with
  | zero => intro σ hm; cases hm
  | succ n ih =>
    intro σ hm
    unfold t_X12_term_9 at hm
    unfold m_X12_term_9
    refine r_cS (fun r9 s9 e9 => l_X12_see _ _ _  e9) hm (fun r4 σ5 hm => ?_)
    refine r_if _ _ hm (fun _ hm => ?_) (fun _ hm => ?_)
    · exact l_X12_term_36 _ _ ih _ hm
    · refine r_cS (fun r9 s9 e9 => l_X12_see _ _ _  e9) hm (fun r7 σ8 hm => ?_)
      refine r_if _ _ hm (fun _ hm => ?_) (fun _ hm => ?_)
      · exact l_X12_term_36 _ _ ih _ hm
      · refine r_cS (fun r9 s9 e9 => l_X12_see _ _ _  e9) hm (fun r10 σ11 hm => ?_)
        refine r_if _ _ hm (fun _ hm => ?_) (fun _ hm => ?_)
        · exact l_X12_term_36 _ _ ih _ hm
        · exact r_retS hm
def t_X12_term (σ : r_S) : Option (Int32 × r_S) :=
  (t_X12_value σ).bind fun (r1, σ2) =>
  if r1 = 0 then
    some ((0 : Int32), σ2)
  else
    t_X12_term_9 q_fu σ2
set_option maxRecDepth 20000 in
theorem l_X12_term (b : Nat) (h0 : q_H) (σ : r_S)  {r : Int32} {s' : r_S} (hm : t_X12_term σ = some (r, s')) : m_X12_term (r_H b σ h0) b = some (r, r_H b s' h0) := by
  unfold t_X12_term at hm
  unfold m_X12_term
  refine r_cS (fun r9 s9 e9 => l_X12_value _ _ _  e9) hm (fun r1 σ2 hm => ?_)
  refine r_if _ _ hm (fun _ hm => ?_) (fun _ hm => ?_)
  · exact r_retS hm
  · exact l_X12_term_9 _ _ _ _ hm
def t_X12_sum_46 (k9 : r_S → Option (Int32 × r_S)) (σ : r_S) (s0 : Int32) : Option (Int32 × r_S) :=
  let v13 := r_I σ 8
  let σ14 := r_si σ 8 (v13 + (1 : Int32))
  (t_X12_term σ14).bind fun (r15, σ16) =>
  if r15 = 0 then
    some ((0 : Int32), σ16)
  else
    (t_X12_puts σ16 s0 ((0 : Int32))).bind fun σ19 =>
    k9 σ19
set_option maxRecDepth 20000 in
theorem l_X12_sum_46 (b : Nat) (h0 : q_H) {r : Int32} {s' : r_S} {k9 : r_S → Option (Int32 × r_S)} {gk9 : q_H → Nat → Option (Int32 × q_H)} (hk9 : ∀ (σ : r_S), k9 σ = some (r, s') → gk9 (r_H b σ h0) b = some (r, r_H b s' h0)) : ∀ (σ : r_S) (s0 : Int32), t_X12_sum_46 k9 σ s0 = some (r, s') → m_X12_sum_46 gk9 (r_H b σ h0) b s0 = some (r, r_H b s' h0) := by
  intro σ s0 hm
  unfold t_X12_sum_46 at hm
  unfold m_X12_sum_46
  refine r_gi_8 ?_
  refine r_pi_8 ?_
  refine r_cS (fun r9 s9 e9 => l_X12_term _ _ _  e9) hm (fun r15 σ16 hm => ?_)
  refine r_if _ _ hm (fun _ hm => ?_) (fun _ hm => ?_)
  · exact r_retS hm
  · refine r_cV (fun s9 e9 => l_X12_puts _ _ _ _ _ e9) hm (fun σ19 hm => ?_)
    exact hk9 _ hm
def t_X12_sum_27 (k9 : r_S → Option (Int32 × r_S)) (σ : r_S) : Option (Int32 × r_S) :=
  let v11 := r_I σ 8
  (t_ai 400 (r_A σ 0) v11).bind fun v12 =>
  if v12 = (43 : Int32) then
    t_X12_sum_46 k9 σ ((2 : Int32))
  else
    t_X12_sum_46 k9 σ ((3 : Int32))
set_option maxRecDepth 20000 in
theorem l_X12_sum_27 (b : Nat) (h0 : q_H) {r : Int32} {s' : r_S} {k9 : r_S → Option (Int32 × r_S)} {gk9 : q_H → Nat → Option (Int32 × q_H)} (hk9 : ∀ (σ : r_S), k9 σ = some (r, s') → gk9 (r_H b σ h0) b = some (r, r_H b s' h0)) : ∀ (σ : r_S), t_X12_sum_27 k9 σ = some (r, s') → m_X12_sum_27 gk9 (r_H b σ h0) b = some (r, r_H b s' h0) := by
  intro σ hm
  unfold t_X12_sum_27 at hm
  unfold m_X12_sum_27
  refine r_gn_0 ?_
  refine r_gi_8 ?_
  refine r_ai_0 hm (fun v12 hm => ?_)
  refine r_if _ _ hm (fun _ hm => ?_) (fun _ hm => ?_)
  · exact l_X12_sum_46 _ _ hk9 _ _ hm
  · exact l_X12_sum_46 _ _ hk9 _ _ hm
def t_X12_sum_9  : Nat → r_S → Option (Int32 × r_S)
  | 0, _ => none
  | n + 1, σ =>
    (t_X12_see σ).bind fun (r4, σ5) =>
    if r4 = (43 : Int32) then
      t_X12_sum_27 (t_X12_sum_9 n) σ5
    else
      (t_X12_see σ5).bind fun (r7, σ8) =>
      if r7 = (45 : Int32) then
        t_X12_sum_27 (t_X12_sum_9 n) σ8
      else
        some ((1 : Int32), σ8)
set_option maxRecDepth 20000 in
theorem l_X12_sum_9 (b : Nat) (h0 : q_H) {r : Int32} {s' : r_S} : ∀ (n : Nat) (σ : r_S), t_X12_sum_9 n σ = some (r, s') → m_X12_sum_9 n (r_H b σ h0) b = some (r, r_H b s' h0) := by
  intro n
  induction n with
  | zero => intro σ hm; cases hm
  | succ n ih =>
    intro σ hm
    unfold t_X12_sum_9 at hm
    unfold m_X12_sum_9
    refine r_cS (fun r9 s9 e9 => l_X12_see _ _ _  e9) hm (fun r4 σ5 hm => ?_)
    refine r_if _ _ hm (fun _ hm => ?_) (fun _ hm => ?_)
    · exact l_X12_sum_27 _ _ ih _ hm
    · refine r_cS (fun r9 s9 e9 => l_X12_see _ _ _  e9) hm (fun r7 σ8 hm => ?_)
      refine r_if _ _ hm (fun _ hm => ?_) (fun _ hm => ?_)
      · exact l_X12_sum_27 _ _ ih _ hm
      · exact r_retS hm
def t_X12_sum (σ : r_S) : Option (Int32 × r_S) :=
  (t_X12_term σ).bind fun (r1, σ2) =>
  if r1 = 0 then
    some ((0 : Int32), σ2)
  else
    t_X12_sum_9 q_fu σ2
set_option maxRecDepth 20000 in
theorem l_X12_sum (b : Nat) (h0 : q_H) (σ : r_S)  {r : Int32} {s' : r_S} (hm : t_X12_sum σ = some (r, s')) : m_X12_sum (r_H b σ h0) b = some (r, r_H b s' h0) := by
  unfold t_X12_sum at hm
  unfold m_X12_sum
  refine r_cS (fun r9 s9 e9 => l_X12_term _ _ _  e9) hm (fun r1 σ2 hm => ?_)
  refine r_if _ _ hm (fun _ hm => ?_) (fun _ hm => ?_)
  · exact r_retS hm
  · exact l_X12_sum_9 _ _ _ _ hm
def t_X12_compare_152 (σ : r_S) (s0 : Int32) : Option (Int32 × r_S) :=
  (t_X12_sum σ).bind fun (r23, σ24) =>
  if r23 = 0 then
    some ((0 : Int32), σ24)
  else
    (t_X12_puts σ24 (((6 : Int32) + s0)) ((0 : Int32))).bind fun σ27 =>
    some ((1 : Int32), σ27)
set_option maxRecDepth 20000 in
theorem l_X12_compare_152 (b : Nat) (h0 : q_H) {r : Int32} {s' : r_S} : ∀ (σ : r_S) (s0 : Int32), t_X12_compare_152 σ s0 = some (r, s') → m_X12_compare_152 (r_H b σ h0) b s0 = some (r, r_H b s' h0) := by
  intro σ s0 hm
  unfold t_X12_compare_152 at hm
  unfold m_X12_compare_152
  refine r_cS (fun r9 s9 e9 => l_X12_sum _ _ _  e9) hm (fun r23 σ24 hm => ?_)
  refine r_if _ _ hm (fun _ hm => ?_) (fun _ hm => ?_)
  · exact r_retS hm
  · refine r_cV (fun s9 e9 => l_X12_puts _ _ _ _ _ e9) hm (fun σ27 hm => ?_)
    exact r_retS hm
def t_X12_compare_105 (σ : r_S) (x1 : Int32) (x2 : Int32) (x3 : Int32) : Option (Int32 × r_S) :=
  (t_X12_makes σ x2).bind fun (r20, σ21) =>
  if r20 = 0 then
    some ((0 : Int32), σ21)
  else
    if x1 = (60 : Int32) then
      if x3 = 0 then
        t_X12_compare_152 σ21 ((0 : Int32))
      else
        t_X12_compare_152 σ21 ((1 : Int32))
    else
      if x1 = (61 : Int32) then
        t_X12_compare_152 σ21 ((2 : Int32))
      else
        if x3 = 0 then
          t_X12_compare_152 σ21 ((4 : Int32))
        else
          t_X12_compare_152 σ21 ((3 : Int32))
set_option maxRecDepth 20000 in
theorem l_X12_compare_105 (b : Nat) (h0 : q_H) {r : Int32} {s' : r_S} : ∀ (σ : r_S) (x1 : Int32) (x2 : Int32) (x3 : Int32), t_X12_compare_105 σ x1 x2 x3 = some (r, s') → m_X12_compare_105 (r_H b σ h0) b x1 x2 x3 = some (r, r_H b s' h0) := by
  intro σ x1 x2 x3 hm
  unfold t_X12_compare_105 at hm
  unfold m_X12_compare_105
  refine r_cS (fun r9 s9 e9 => l_X12_makes _ _ _ _ e9) hm (fun r20 σ21 hm => ?_)
  refine r_if _ _ hm (fun _ hm => ?_) (fun _ hm => ?_)
  · exact r_retS hm
  · refine r_if _ _ hm (fun _ hm => ?_) (fun _ hm => ?_)
    · refine r_if _ _ hm (fun _ hm => ?_) (fun _ hm => ?_)
      · exact l_X12_compare_152 _ _ _ _ hm
      · exact l_X12_compare_152 _ _ _ _ hm
    · refine r_if _ _ hm (fun _ hm => ?_) (fun _ hm => ?_)
      · exact l_X12_compare_152 _ _ _ _ hm
      · refine r_if _ _ hm (fun _ hm => ?_) (fun _ hm => ?_)
        · exact l_X12_compare_152 _ _ _ _ hm
        · exact l_X12_compare_152 _ _ _ _ hm
def t_X12_compare_90 (σ : r_S) (x1 : Int32) (x2 : Int32) (s0 : Int32) : Option (Int32 × r_S) :=
  if s0 = 0 then
    t_X12_compare_105 σ x1 x2 s0
  else
    let v18 := r_I σ 8
    let σ19 := r_si σ 8 (v18 + (1 : Int32))
    t_X12_compare_105 σ19 x1 x2 s0
set_option maxRecDepth 20000 in
theorem l_X12_compare_90 (b : Nat) (h0 : q_H) {r : Int32} {s' : r_S} : ∀ (σ : r_S) (x1 : Int32) (x2 : Int32) (s0 : Int32), t_X12_compare_90 σ x1 x2 s0 = some (r, s') → m_X12_compare_90 (r_H b σ h0) b x1 x2 s0 = some (r, r_H b s' h0) := by
  intro σ x1 x2 s0 hm
  unfold t_X12_compare_90 at hm
  unfold m_X12_compare_90
  refine r_if _ _ hm (fun _ hm => ?_) (fun _ hm => ?_)
  · exact l_X12_compare_105 _ _ _ _ _ _ hm
  · refine r_gi_8 ?_
    refine r_pi_8 ?_
    exact l_X12_compare_105 _ _ _ _ _ _ hm
def t_X12_compare_89 (σ : r_S) (x1 : Int32) (x2 : Int32) : Option (Int32 × r_S) :=
  t_X12_compare_90 σ x1 x2 ((0 : Int32))
set_option maxRecDepth 20000 in
theorem l_X12_compare_89 (b : Nat) (h0 : q_H) {r : Int32} {s' : r_S} : ∀ (σ : r_S) (x1 : Int32) (x2 : Int32), t_X12_compare_89 σ x1 x2 = some (r, s') → m_X12_compare_89 (r_H b σ h0) b x1 x2 = some (r, r_H b s' h0) := by
  intro σ x1 x2 hm
  unfold t_X12_compare_89 at hm
  unfold m_X12_compare_89
  exact l_X12_compare_90 _ _ _ _ _ _ hm
def t_X12_compare_44 (σ : r_S) (x1 : Int32) (x2 : Int32) : Option (Int32 × r_S) :=
  let v11 := r_I σ 8
  let σ12 := r_si σ 8 (v11 + (1 : Int32))
  if x1 = (61 : Int32) then
    t_X12_compare_89 σ12 x1 x2
  else
    let v13 := r_I σ12 8
    let v14 := r_I σ12 1
    if v14 ≤ v13 then
      t_X12_compare_89 σ12 x1 x2
    else
      let v16 := r_I σ12 8
      (t_ai 400 (r_A σ12 0) v16).bind fun v17 =>
      if v17 = (61 : Int32) then
        t_X12_compare_90 σ12 x1 x2 ((1 : Int32))
      else
        t_X12_compare_89 σ12 x1 x2
set_option maxRecDepth 20000 in
theorem l_X12_compare_44 (b : Nat) (h0 : q_H) {r : Int32} {s' : r_S} : ∀ (σ : r_S) (x1 : Int32) (x2 : Int32), t_X12_compare_44 σ x1 x2 = some (r, s') → m_X12_compare_44 (r_H b σ h0) b x1 x2 = some (r, r_H b s' h0) := by
  intro σ x1 x2 hm
  unfold t_X12_compare_44 at hm
  unfold m_X12_compare_44
  refine r_gi_8 ?_
  refine r_pi_8 ?_
  refine r_if _ _ hm (fun _ hm => ?_) (fun _ hm => ?_)
  · exact l_X12_compare_89 _ _ _ _ _ hm
  · refine r_gi_8 ?_
    refine r_gi_1 ?_
    refine r_if _ _ hm (fun _ hm => ?_) (fun _ hm => ?_)
    · exact l_X12_compare_89 _ _ _ _ _ hm
    · refine r_gn_0 ?_
      refine r_gi_8 ?_
      refine r_ai_0 hm (fun v17 hm => ?_)
      refine r_if _ _ hm (fun _ hm => ?_) (fun _ hm => ?_)
      · exact l_X12_compare_90 _ _ _ _ _ _ hm
      · exact l_X12_compare_89 _ _ _ _ _ hm
def t_X12_compare (σ : r_S) : Option (Int32 × r_S) :=
  (t_X12_sum σ).bind fun (r1, σ2) =>
  if r1 = 0 then
    some ((0 : Int32), σ2)
  else
    (t_X12_see σ2).bind fun (r4, σ5) =>
    let v7 := r_I σ5 8
    if r4 = (60 : Int32) then
      t_X12_compare_44 σ5 r4 v7
    else
      if r4 = (61 : Int32) then
        t_X12_compare_44 σ5 r4 v7
      else
        if r4 = (62 : Int32) then
          t_X12_compare_44 σ5 r4 v7
        else
          (t_X12_fails σ5 ((0 : Int32)) v7).bind fun (r8, σ9) =>
          some (r8, σ9)
set_option maxRecDepth 20000 in
theorem l_X12_compare (b : Nat) (h0 : q_H) (σ : r_S)  {r : Int32} {s' : r_S} (hm : t_X12_compare σ = some (r, s')) : m_X12_compare (r_H b σ h0) b = some (r, r_H b s' h0) := by
  unfold t_X12_compare at hm
  unfold m_X12_compare
  refine r_cS (fun r9 s9 e9 => l_X12_sum _ _ _  e9) hm (fun r1 σ2 hm => ?_)
  refine r_if _ _ hm (fun _ hm => ?_) (fun _ hm => ?_)
  · exact r_retS hm
  · refine r_cS (fun r9 s9 e9 => l_X12_see _ _ _  e9) hm (fun r4 σ5 hm => ?_)
    refine r_gi_8 ?_
    refine r_if _ _ hm (fun _ hm => ?_) (fun _ hm => ?_)
    · exact l_X12_compare_44 _ _ _ _ _ hm
    · refine r_if _ _ hm (fun _ hm => ?_) (fun _ hm => ?_)
      · exact l_X12_compare_44 _ _ _ _ _ hm
      · refine r_if _ _ hm (fun _ hm => ?_) (fun _ hm => ?_)
        · exact l_X12_compare_44 _ _ _ _ _ hm
        · refine r_cS (fun r9 s9 e9 => l_X12_fails _ _ _ _ _ e9) hm (fun r8 σ9 hm => ?_)
          exact r_retS hm
def t_X12_fact_72 (k2 : r_S → Int32 → Option (Int32 × r_S)) (σ : r_S) (x1 : Int32) : Option (Int32 × r_S) :=
  k2 σ x1
set_option maxRecDepth 20000 in
theorem l_X12_fact_72 (b : Nat) (h0 : q_H) {r : Int32} {s' : r_S} {k2 : r_S → Int32 → Option (Int32 × r_S)} {gk2 : q_H → Nat → Int32 → Option (Int32 × q_H)} (hk2 : ∀ (σ : r_S) (x1 : Int32), k2 σ x1 = some (r, s') → gk2 (r_H b σ h0) b x1 = some (r, r_H b s' h0)) : ∀ (σ : r_S) (x1 : Int32), t_X12_fact_72 k2 σ x1 = some (r, s') → m_X12_fact_72 gk2 (r_H b σ h0) b x1 = some (r, r_H b s' h0) := by
  intro σ x1 hm
  unfold t_X12_fact_72 at hm
  unfold m_X12_fact_72
  exact hk2 _ _ hm
def t_X12_fact_2  : Nat → r_S → Int32 → Option (Int32 × r_S)
  | 0, _, _ => none
  | n + 1, σ, x1 =>
    if x1 = 0 then
      (t_X12_compare σ).bind fun (r1, σ2) =>
      some (r1, σ2)
    else
      (t_X12_see σ).bind fun (r4, σ5) =>
      (t_X12_isWord σ5 ((7237492 : Int64))).bind fun (r7, σ8) =>
      if r7 = 0 then
        if r4 = (91 : Int32) then
          (t_X12_opens σ8 ((91 : Int32))).bind fun (r10, σ11) =>
          if r10 = 0 then
            some ((0 : Int32), σ11)
          else
            let v13 := r_I σ11 8
            let σ14 := r_si σ11 8 (v13 + (1 : Int32))
            t_X12_fact_72 (t_X12_fact_2 n) σ14 ((1 : Int32))
        else
          t_X12_fact_72 (t_X12_fact_2 n) σ8 ((0 : Int32))
      else
        (t_X12_opens σ8 ((11 : Int32))).bind fun (r15, σ16) =>
        if r15 = 0 then
          some ((0 : Int32), σ16)
        else
          (t_X12_passWord σ16).bind fun σ19 =>
          t_X12_fact_72 (t_X12_fact_2 n) σ19 ((1 : Int32))
set_option maxRecDepth 20000 in
theorem l_X12_fact_2 (b : Nat) (h0 : q_H) {r : Int32} {s' : r_S} : ∀ (n : Nat) (σ : r_S) (x1 : Int32), t_X12_fact_2 n σ x1 = some (r, s') → m_X12_fact_2 n (r_H b σ h0) b x1 = some (r, r_H b s' h0) := by
  intro n
  induction n with
  | zero => intro σ x1 hm; cases hm
  | succ n ih =>
    intro σ x1 hm
    unfold t_X12_fact_2 at hm
    unfold m_X12_fact_2
    refine r_if _ _ hm (fun _ hm => ?_) (fun _ hm => ?_)
    · refine r_cS (fun r9 s9 e9 => l_X12_compare _ _ _  e9) hm (fun r1 σ2 hm => ?_)
      exact r_retS hm
    · refine r_cS (fun r9 s9 e9 => l_X12_see _ _ _  e9) hm (fun r4 σ5 hm => ?_)
      refine r_cS (fun r9 s9 e9 => l_X12_isWord _ _ _ _ e9) hm (fun r7 σ8 hm => ?_)
      refine r_if _ _ hm (fun _ hm => ?_) (fun _ hm => ?_)
      · refine r_if _ _ hm (fun _ hm => ?_) (fun _ hm => ?_)
        · refine r_cS (fun r9 s9 e9 => l_X12_opens _ _ _ _ e9) hm (fun r10 σ11 hm => ?_)
          refine r_if _ _ hm (fun _ hm => ?_) (fun _ hm => ?_)
          · exact r_retS hm
          · refine r_gi_8 ?_
            refine r_pi_8 ?_
            exact l_X12_fact_72 _ _ ih _ _ hm
        · exact l_X12_fact_72 _ _ ih _ _ hm
      · refine r_cS (fun r9 s9 e9 => l_X12_opens _ _ _ _ e9) hm (fun r15 σ16 hm => ?_)
        refine r_if _ _ hm (fun _ hm => ?_) (fun _ hm => ?_)
        · exact r_retS hm
        · refine r_cV (fun s9 e9 => l_X12_passWord _ _ _  e9) hm (fun σ19 hm => ?_)
          exact l_X12_fact_72 _ _ ih _ _ hm
def t_X12_fact (σ : r_S) : Option (Int32 × r_S) :=
  t_X12_fact_2 q_fu σ ((1 : Int32))
set_option maxRecDepth 20000 in
theorem l_X12_fact (b : Nat) (h0 : q_H) (σ : r_S)  {r : Int32} {s' : r_S} (hm : t_X12_fact σ = some (r, s')) : m_X12_fact (r_H b σ h0) b = some (r, r_H b s' h0) := by
  unfold t_X12_fact at hm
  unfold m_X12_fact
  exact l_X12_fact_2 _ _ _ _ _ hm
def t_X12_isInside_2  : Nat → r_S → Int32 → Option Int32
  | 0, _, _ => none
  | n + 1, σ0, x1 =>
    let v1 := r_I σ0 16
    if v1 ≤ x1 then
      some ((0 : Int32))
    else
      (t_ai 400 (r_A σ0 15) x1).bind fun v3 =>
      if v3 = (91 : Int32) then
        some ((1 : Int32))
      else
        t_X12_isInside_2 n σ0 ((x1 + (1 : Int32)))
set_option maxRecDepth 20000 in
theorem l_X12_isInside_2 (b : Nat) (h0 : q_H) {r : Int32} : ∀ (n : Nat) (σ0 : r_S) (x1 : Int32), t_X12_isInside_2 n σ0 x1 = some r → m_X12_isInside_2 n (r_H b σ0 h0) b x1 = some r := by
  intro n
  induction n with
  | zero => intro σ0 x1 hm; cases hm
  | succ n ih =>
    intro σ0 x1 hm
    unfold t_X12_isInside_2 at hm
    unfold m_X12_isInside_2
    refine r_gi_16 ?_
    refine r_if _ _ hm (fun _ hm => ?_) (fun _ hm => ?_)
    · exact hm
    · refine r_gn_15 ?_
      refine r_ai_15 hm (fun v3 hm => ?_)
      refine r_if _ _ hm (fun _ hm => ?_) (fun _ hm => ?_)
      · exact hm
      · exact ih _ _ hm
def t_X12_isInside (σ0 : r_S) : Option Int32 :=
  t_X12_isInside_2 q_fu σ0 ((0 : Int32))
set_option maxRecDepth 20000 in
theorem l_X12_isInside (b : Nat) (h0 : q_H) (σ0 : r_S)  {r : Int32} (hm : t_X12_isInside σ0 = some r) : m_X12_isInside (r_H b σ0 h0) b = some r := by
  unfold t_X12_isInside at hm
  unfold m_X12_isInside
  exact l_X12_isInside_2 _ _ _ _ _ hm
def t_X12_closes_5  : Nat → r_S → Option r_S
  | 0, _ => none
  | n + 1, σ =>
    (t_X12_see σ).bind fun (r3, σ4) =>
    if r3 = (93 : Int32) then
      (t_X12_isInside σ4).bind fun r6 =>
      if r6 = 0 then
        some σ4
      else
        (t_X12_layDown σ4 ((1 : Int32))).bind fun σ9 =>
        let v10 := r_I σ9 16
        let σ11 := r_si σ9 16 (v10 - (1 : Int32))
        let v12 := r_I σ11 13
        let σ13 := r_si σ11 13 (v12 - (1 : Int32))
        let v14 := r_I σ13 8
        let σ15 := r_si σ13 8 (v14 + (1 : Int32))
        (t_X12_layDown σ15 ((3 : Int32))).bind fun σ17 =>
        t_X12_closes_5 n σ17
    else
      some σ4
set_option maxRecDepth 20000 in
theorem l_X12_closes_5 (b : Nat) (h0 : q_H) {s' : r_S} : ∀ (n : Nat) (σ : r_S), t_X12_closes_5 n σ = some s' → m_X12_closes_5 n (r_H b σ h0) b = some (r_H b s' h0) := by
  intro n
  induction n with
  | zero => intro σ hm; cases hm
  | succ n ih =>
    intro σ hm
    unfold t_X12_closes_5 at hm
    unfold m_X12_closes_5
    refine r_cS (fun r9 s9 e9 => l_X12_see _ _ _  e9) hm (fun r3 σ4 hm => ?_)
    refine r_if _ _ hm (fun _ hm => ?_) (fun _ hm => ?_)
    · refine r_cP (fun r9 e9 => l_X12_isInside _ _ _  e9) hm (fun r6 hm => ?_)
      refine r_if _ _ hm (fun _ hm => ?_) (fun _ hm => ?_)
      · exact r_retV hm
      · refine r_cV (fun s9 e9 => l_X12_layDown _ _ _ _ e9) hm (fun σ9 hm => ?_)
        refine r_gi_16 ?_
        refine r_pi_16 ?_
        refine r_gi_13 ?_
        refine r_pi_13 ?_
        refine r_gi_8 ?_
        refine r_pi_8 ?_
        refine r_cV (fun s9 e9 => l_X12_layDown _ _ _ _ e9) hm (fun σ17 hm => ?_)
        exact ih _ hm
    · exact r_retV hm
def t_X12_closes (σ : r_S) : Option r_S :=
  (t_X12_layDown σ ((3 : Int32))).bind fun σ2 =>
  t_X12_closes_5 q_fu σ2
set_option maxRecDepth 20000 in
theorem l_X12_closes (b : Nat) (h0 : q_H) (σ : r_S)  {s' : r_S} (hm : t_X12_closes σ = some s') : m_X12_closes (r_H b σ h0) b = some (r_H b s' h0) := by
  unfold t_X12_closes at hm
  unfold m_X12_closes
  refine r_cV (fun s9 e9 => l_X12_layDown _ _ _ _ e9) hm (fun σ2 hm => ?_)
  exact l_X12_closes_5 _ _ _ _ hm
def t_X12_tested_76 (k12 : r_S → Int32 → Option (Int32 × r_S)) (σ : r_S) (x1 : Int32) (s0 : Int32) : Option (Int32 × r_S) :=
  (t_X12_passWord σ).bind fun σ29 =>
  (m_X12_strength s0).bind fun r30 =>
  (t_X12_layDown σ29 r30).bind fun σ33 =>
  let v35 := r_I σ33 16
  (t_si 400 σ33 15 v35 s0).bind fun σ36 =>
  let v37 := r_I σ36 16
  let σ38 := r_si σ36 16 (v37 + (1 : Int32))
  k12 σ38 x1
set_option maxRecDepth 20000 in
theorem l_X12_tested_76 (b : Nat) (h0 : q_H) {r : Int32} {s' : r_S} {k12 : r_S → Int32 → Option (Int32 × r_S)} {gk12 : q_H → Nat → Int32 → Option (Int32 × q_H)} (hk12 : ∀ (σ : r_S) (x1 : Int32), k12 σ x1 = some (r, s') → gk12 (r_H b σ h0) b x1 = some (r, r_H b s' h0)) : ∀ (σ : r_S) (x1 : Int32) (s0 : Int32), t_X12_tested_76 k12 σ x1 s0 = some (r, s') → m_X12_tested_76 gk12 (r_H b σ h0) b x1 s0 = some (r, r_H b s' h0) := by
  intro σ x1 s0 hm
  unfold t_X12_tested_76 at hm
  unfold m_X12_tested_76
  refine r_cV (fun s9 e9 => l_X12_passWord _ _ _  e9) hm (fun σ29 hm => ?_)
  refine r_bd hm (fun r30 hm => ?_)
  refine r_cV (fun s9 e9 => l_X12_layDown _ _ _ _ e9) hm (fun σ33 hm => ?_)
  refine r_gn_15 ?_
  refine r_gi_16 ?_
  refine r_as_15 hm (fun σ36 hm => ?_)
  refine r_gi_16 ?_
  refine r_pi_16 ?_
  exact hk12 _ _ hm
def t_X12_tested_54 (k12 : r_S → Int32 → Option (Int32 × r_S)) (σ : r_S) (s0 : Int32) : Option (Int32 × r_S) :=
  if s0 = 0 then
    k12 σ s0
  else
    (t_X12_isWord σ ((6385252 : Int64))).bind fun (r25, σ26) =>
    if r25 = 0 then
      t_X12_tested_76 k12 σ26 s0 ((13 : Int32))
    else
      t_X12_tested_76 k12 σ26 s0 ((12 : Int32))
set_option maxRecDepth 20000 in
theorem l_X12_tested_54 (b : Nat) (h0 : q_H) {r : Int32} {s' : r_S} {k12 : r_S → Int32 → Option (Int32 × r_S)} {gk12 : q_H → Nat → Int32 → Option (Int32 × q_H)} (hk12 : ∀ (σ : r_S) (x1 : Int32), k12 σ x1 = some (r, s') → gk12 (r_H b σ h0) b x1 = some (r, r_H b s' h0)) : ∀ (σ : r_S) (s0 : Int32), t_X12_tested_54 k12 σ s0 = some (r, s') → m_X12_tested_54 gk12 (r_H b σ h0) b s0 = some (r, r_H b s' h0) := by
  intro σ s0 hm
  unfold t_X12_tested_54 at hm
  unfold m_X12_tested_54
  refine r_if _ _ hm (fun _ hm => ?_) (fun _ hm => ?_)
  · exact hk12 _ _ hm
  · refine r_cS (fun r9 s9 e9 => l_X12_isWord _ _ _ _ e9) hm (fun r25 σ26 hm => ?_)
    refine r_if _ _ hm (fun _ hm => ?_) (fun _ hm => ?_)
    · exact l_X12_tested_76 _ _ hk12 _ _ _ hm
    · exact l_X12_tested_76 _ _ hk12 _ _ _ hm
def t_X12_tested_49 (k12 : r_S → Int32 → Option (Int32 × r_S)) (σ : r_S) : Option (Int32 × r_S) :=
  t_X12_tested_54 k12 σ ((1 : Int32))
set_option maxRecDepth 20000 in
theorem l_X12_tested_49 (b : Nat) (h0 : q_H) {r : Int32} {s' : r_S} {k12 : r_S → Int32 → Option (Int32 × r_S)} {gk12 : q_H → Nat → Int32 → Option (Int32 × q_H)} (hk12 : ∀ (σ : r_S) (x1 : Int32), k12 σ x1 = some (r, s') → gk12 (r_H b σ h0) b x1 = some (r, r_H b s' h0)) : ∀ (σ : r_S), t_X12_tested_49 k12 σ = some (r, s') → m_X12_tested_49 gk12 (r_H b σ h0) b = some (r, r_H b s' h0) := by
  intro σ hm
  unfold t_X12_tested_49 at hm
  unfold m_X12_tested_49
  exact l_X12_tested_54 _ _ hk12 _ _ hm
def t_X12_tested_12  : Nat → r_S → Int32 → Option (Int32 × r_S)
  | 0, _, _ => none
  | n + 1, σ, x1 =>
    if x1 = 0 then
      (t_X12_isInside σ).bind fun r3 =>
      if r3 = 0 then
        (t_X12_layDown σ ((1 : Int32))).bind fun σ6 =>
        some ((1 : Int32), σ6)
      else
        (t_X12_see σ).bind fun (r7, σ8) =>
        let v10 := r_I σ8 8
        (t_X12_fails σ8 ((0 : Int32)) v10).bind fun (r11, σ12) =>
        some (r11, σ12)
    else
      (t_X12_fact σ).bind fun (r14, σ15) =>
      if r14 = 0 then
        some ((0 : Int32), σ15)
      else
        (t_X12_closes σ15).bind fun σ18 =>
        (t_X12_isWord σ18 ((6385252 : Int64))).bind fun (r19, σ20) =>
        if r19 = 0 then
          (t_X12_isWord σ20 ((28530 : Int64))).bind fun (r22, σ23) =>
          if r22 = 0 then
            t_X12_tested_54 (t_X12_tested_12 n) σ23 ((0 : Int32))
          else
            t_X12_tested_49 (t_X12_tested_12 n) σ23
        else
          t_X12_tested_49 (t_X12_tested_12 n) σ20
set_option maxRecDepth 20000 in
theorem l_X12_tested_12 (b : Nat) (h0 : q_H) {r : Int32} {s' : r_S} : ∀ (n : Nat) (σ : r_S) (x1 : Int32), t_X12_tested_12 n σ x1 = some (r, s') → m_X12_tested_12 n (r_H b σ h0) b x1 = some (r, r_H b s' h0) := by
  intro n
  induction n with
  | zero => intro σ x1 hm; cases hm
  | succ n ih =>
    intro σ x1 hm
    unfold t_X12_tested_12 at hm
    unfold m_X12_tested_12
    refine r_if _ _ hm (fun _ hm => ?_) (fun _ hm => ?_)
    · refine r_cP (fun r9 e9 => l_X12_isInside _ _ _  e9) hm (fun r3 hm => ?_)
      refine r_if _ _ hm (fun _ hm => ?_) (fun _ hm => ?_)
      · refine r_cV (fun s9 e9 => l_X12_layDown _ _ _ _ e9) hm (fun σ6 hm => ?_)
        exact r_retS hm
      · refine r_cS (fun r9 s9 e9 => l_X12_see _ _ _  e9) hm (fun r7 σ8 hm => ?_)
        refine r_gi_8 ?_
        refine r_cS (fun r9 s9 e9 => l_X12_fails _ _ _ _ _ e9) hm (fun r11 σ12 hm => ?_)
        exact r_retS hm
    · refine r_cS (fun r9 s9 e9 => l_X12_fact _ _ _  e9) hm (fun r14 σ15 hm => ?_)
      refine r_if _ _ hm (fun _ hm => ?_) (fun _ hm => ?_)
      · exact r_retS hm
      · refine r_cV (fun s9 e9 => l_X12_closes _ _ _  e9) hm (fun σ18 hm => ?_)
        refine r_cS (fun r9 s9 e9 => l_X12_isWord _ _ _ _ e9) hm (fun r19 σ20 hm => ?_)
        refine r_if _ _ hm (fun _ hm => ?_) (fun _ hm => ?_)
        · refine r_cS (fun r9 s9 e9 => l_X12_isWord _ _ _ _ e9) hm (fun r22 σ23 hm => ?_)
          refine r_if _ _ hm (fun _ hm => ?_) (fun _ hm => ?_)
          · exact l_X12_tested_54 _ _ ih _ _ hm
          · exact l_X12_tested_49 _ _ ih _ hm
        · exact l_X12_tested_49 _ _ ih _ hm
def t_X12_tested (σ : r_S) : Option (Int32 × r_S) :=
  let σ1 := r_si σ 16 (0 : Int32)
  let σ2 := r_si σ1 13 (0 : Int32)
  t_X12_tested_12 q_fu σ2 ((1 : Int32))
set_option maxRecDepth 20000 in
theorem l_X12_tested (b : Nat) (h0 : q_H) (σ : r_S)  {r : Int32} {s' : r_S} (hm : t_X12_tested σ = some (r, s')) : m_X12_tested (r_H b σ h0) b = some (r, r_H b s' h0) := by
  unfold t_X12_tested at hm
  unfold m_X12_tested
  refine r_pi_16 ?_
  refine r_pi_13 ?_
  exact l_X12_tested_12 _ _ _ _ _ hm
def t_X12_isPullHere_110 (σ : r_S) (x1 : Int32) : Option (Int32 × r_S) :=
  let v35 := r_I σ 11
  (t_ai 7 (r_A σ 4) v35).bind fun v36 =>
  (t_si 288 σ 5 ((x1 + (3 : Int32))) v36).bind fun σ37 =>
  let v39 := r_I σ37 11
  (t_ai 6 (r_A σ37 6) v39).bind fun v40 =>
  (t_si 6 σ37 6 v39 ((v40 + (1 : Int32)))).bind fun σ41 =>
  some ((1 : Int32), σ41)
set_option maxRecDepth 20000 in
theorem l_X12_isPullHere_110 (b : Nat) (h0 : q_H) {r : Int32} {s' : r_S} : ∀ (σ : r_S) (x1 : Int32), t_X12_isPullHere_110 σ x1 = some (r, s') → m_X12_isPullHere_110 (r_H b σ h0) b x1 = some (r, r_H b s' h0) := by
  intro σ x1 hm
  unfold t_X12_isPullHere_110 at hm
  unfold m_X12_isPullHere_110
  refine r_gn_5 ?_
  refine r_gn_4 ?_
  refine r_gi_11 ?_
  refine r_ai_4 hm (fun v36 hm => ?_)
  refine r_as_5 hm (fun σ37 hm => ?_)
  refine r_gn_6 ?_
  refine r_gi_11 ?_
  refine r_ai_6 hm (fun v40 hm => ?_)
  refine r_as_6 hm (fun σ41 hm => ?_)
  exact r_retS hm
def t_X12_isPullHere (σ : r_S) : Option (Int32 × r_S) :=
  (t_X12_passWord σ).bind fun σ2 =>
  let v3 := r_I σ2 11
  let v5 := r_I σ2 11
  (t_ai 6 (r_A σ2 6) v5).bind fun v6 =>
  let v9 := r_I σ2 11
  (t_ai 7 (r_A σ2 4) v9).bind fun v10 =>
  (t_si 288 σ2 5 ((((48 : Int32) * v3) + ((4 : Int32) * v6))) v10).bind fun σ11 =>
  (t_X12_sum σ11).bind fun (r12, σ13) =>
  if r12 = 0 then
    some ((0 : Int32), σ13)
  else
    let v17 := r_I σ13 11
    (t_ai 7 (r_A σ13 4) v17).bind fun v18 =>
    (t_si 288 σ13 5 (((((48 : Int32) * v3) + ((4 : Int32) * v6)) + (1 : Int32))) v18).bind fun σ19 =>
    (t_si 288 σ19 5 (((((48 : Int32) * v3) + ((4 : Int32) * v6)) + (2 : Int32))) ((-1 : Int32))).bind fun σ21 =>
    (t_X12_takesWord σ21 ((26982 : Int64))).bind fun (r22, σ23) =>
    if r22 = 0 then
      t_X12_isPullHere_110 σ23 ((((48 : Int32) * v3) + ((4 : Int32) * v6)))
    else
      let v27 := r_I σ23 11
      (t_ai 7 (r_A σ23 4) v27).bind fun v28 =>
      (t_si 288 σ23 5 (((((48 : Int32) * v3) + ((4 : Int32) * v6)) + (2 : Int32))) v28).bind fun σ29 =>
      (t_X12_tested σ29).bind fun (r30, σ31) =>
      if r30 = 0 then
        some ((0 : Int32), σ31)
      else
        t_X12_isPullHere_110 σ31 ((((48 : Int32) * v3) + ((4 : Int32) * v6)))
set_option maxRecDepth 20000 in
theorem l_X12_isPullHere (b : Nat) (h0 : q_H) (σ : r_S)  {r : Int32} {s' : r_S} (hm : t_X12_isPullHere σ = some (r, s')) : m_X12_isPullHere (r_H b σ h0) b = some (r, r_H b s' h0) := by
  unfold t_X12_isPullHere at hm
  unfold m_X12_isPullHere
  refine r_cV (fun s9 e9 => l_X12_passWord _ _ _  e9) hm (fun σ2 hm => ?_)
  refine r_gi_11 ?_
  refine r_gn_6 ?_
  refine r_gi_11 ?_
  refine r_ai_6 hm (fun v6 hm => ?_)
  refine r_gn_5 ?_
  refine r_gn_4 ?_
  refine r_gi_11 ?_
  refine r_ai_4 hm (fun v10 hm => ?_)
  refine r_as_5 hm (fun σ11 hm => ?_)
  refine r_cS (fun r9 s9 e9 => l_X12_sum _ _ _  e9) hm (fun r12 σ13 hm => ?_)
  refine r_if _ _ hm (fun _ hm => ?_) (fun _ hm => ?_)
  · exact r_retS hm
  · refine r_gn_5 ?_
    refine r_gn_4 ?_
    refine r_gi_11 ?_
    refine r_ai_4 hm (fun v18 hm => ?_)
    refine r_as_5 hm (fun σ19 hm => ?_)
    refine r_gn_5 ?_
    refine r_as_5 hm (fun σ21 hm => ?_)
    refine r_cS (fun r9 s9 e9 => l_X12_takesWord _ _ _ _ e9) hm (fun r22 σ23 hm => ?_)
    refine r_if _ _ hm (fun _ hm => ?_) (fun _ hm => ?_)
    · exact l_X12_isPullHere_110 _ _ _ _ hm
    · refine r_gn_5 ?_
      refine r_gn_4 ?_
      refine r_gi_11 ?_
      refine r_ai_4 hm (fun v28 hm => ?_)
      refine r_as_5 hm (fun σ29 hm => ?_)
      refine r_cS (fun r9 s9 e9 => l_X12_tested _ _ _  e9) hm (fun r30 σ31 hm => ?_)
      refine r_if _ _ hm (fun _ hm => ?_) (fun _ hm => ?_)
      · exact r_retS hm
      · exact l_X12_isPullHere_110 _ _ _ _ hm
def t_X12_cellHere (σ : r_S) (a1 : Int32) (a2 : Int32) (a3 : Int32) : Option (Int32 × r_S) :=
  (t_X12_numberHere σ a2 a3).bind fun (r1, σ2) =>
  if r1 = 0 then
    some ((0 : Int32), σ2)
  else
    let v5 := r_I σ2 10
    (t_si 85 σ2 7 a1 v5).bind fun σ6 =>
    some ((1 : Int32), σ6)
set_option maxRecDepth 20000 in
theorem l_X12_cellHere (b : Nat) (h0 : q_H) (σ : r_S) (a1 : Int32) (a2 : Int32) (a3 : Int32) {r : Int32} {s' : r_S} (hm : t_X12_cellHere σ a1 a2 a3 = some (r, s')) : m_X12_cellHere (r_H b σ h0) b a1 a2 a3 = some (r, r_H b s' h0) := by
  unfold t_X12_cellHere at hm
  unfold m_X12_cellHere
  refine r_cS (fun r9 s9 e9 => l_X12_numberHere _ _ _ _ _ e9) hm (fun r1 σ2 hm => ?_)
  refine r_if _ _ hm (fun _ hm => ?_) (fun _ hm => ?_)
  · exact r_retS hm
  · refine r_gn_7 ?_
    refine r_gi_10 ?_
    refine r_as_7 hm (fun σ6 hm => ?_)
    exact r_retS hm
def t_X12_isRopeHere (σ : r_S) (a1 : Int32) : Option (Int32 × r_S) :=
  (t_ai 85 (r_A σ 7) ((0 : Int32))).bind fun v2 =>
  if v2 ≤ 0 then
    (t_X12_passWord σ).bind fun σ4 =>
    (t_X12_cellHere σ4 ((1 : Int32)) ((1 : Int32)) ((60 : Int32))).bind fun (r5, σ6) =>
    if r5 = 0 then
      some ((0 : Int32), σ6)
    else
      (t_X12_cellHere σ6 ((2 : Int32)) ((0 : Int32)) ((9 : Int32))).bind fun (r8, σ9) =>
      if r8 = 0 then
        some ((0 : Int32), σ9)
      else
        (t_si 85 σ9 7 ((0 : Int32)) ((1 : Int32))).bind fun σ12 =>
        some ((1 : Int32), σ12)
  else
    (t_X12_fails σ ((4 : Int32)) a1).bind fun (r13, σ14) =>
    some (r13, σ14)
set_option maxRecDepth 20000 in
theorem l_X12_isRopeHere (b : Nat) (h0 : q_H) (σ : r_S) (a1 : Int32) {r : Int32} {s' : r_S} (hm : t_X12_isRopeHere σ a1 = some (r, s')) : m_X12_isRopeHere (r_H b σ h0) b a1 = some (r, r_H b s' h0) := by
  unfold t_X12_isRopeHere at hm
  unfold m_X12_isRopeHere
  refine r_gn_7 ?_
  refine r_ai_7 hm (fun v2 hm => ?_)
  refine r_if _ _ hm (fun _ hm => ?_) (fun _ hm => ?_)
  · refine r_cV (fun s9 e9 => l_X12_passWord _ _ _  e9) hm (fun σ4 hm => ?_)
    refine r_cS (fun r9 s9 e9 => l_X12_cellHere _ _ _ _ _ _ e9) hm (fun r5 σ6 hm => ?_)
    refine r_if _ _ hm (fun _ hm => ?_) (fun _ hm => ?_)
    · exact r_retS hm
    · refine r_cS (fun r9 s9 e9 => l_X12_cellHere _ _ _ _ _ _ e9) hm (fun r8 σ9 hm => ?_)
      refine r_if _ _ hm (fun _ hm => ?_) (fun _ hm => ?_)
      · exact r_retS hm
      · refine r_gn_7 ?_
        refine r_as_7 hm (fun σ12 hm => ?_)
        exact r_retS hm
  · refine r_cS (fun r9 s9 e9 => l_X12_fails _ _ _ _ _ e9) hm (fun r13 σ14 hm => ?_)
    exact r_retS hm
def t_X12_isPullerHere (σ : r_S) (a1 : Int32) : Option (Int32 × r_S) :=
  (t_ai 85 (r_A σ 7) ((3 : Int32))).bind fun v2 =>
  if v2 = (8 : Int32) then
    (t_X12_fails σ ((4 : Int32)) a1).bind fun (r22, σ23) =>
    some (r22, σ23)
  else
    (t_X12_passWord σ).bind fun σ4 =>
    (t_ai 85 (r_A σ4 7) ((3 : Int32))).bind fun v6 =>
    (t_X12_cellHere σ4 (((68 : Int32) + v6)) ((0 : Int32)) ((1 : Int32))).bind fun (r7, σ8) =>
    if r7 = 0 then
      some ((0 : Int32), σ8)
    else
      (t_X12_cellHere σ8 (((52 : Int32) + v6)) ((1 : Int32)) ((40 : Int32))).bind fun (r10, σ11) =>
      if r10 = 0 then
        some ((0 : Int32), σ11)
      else
        (t_X12_cellHere σ11 (((76 : Int32) + v6)) ((0 : Int32)) ((60 : Int32))).bind fun (r13, σ14) =>
        if r13 = 0 then
          some ((0 : Int32), σ14)
        else
          (t_X12_cellHere σ14 (((60 : Int32) + v6)) ((0 : Int32)) ((9 : Int32))).bind fun (r16, σ17) =>
          if r16 = 0 then
            some ((0 : Int32), σ17)
          else
            (t_ai 85 (r_A σ17 7) ((3 : Int32))).bind fun v20 =>
            (t_si 85 σ17 7 ((3 : Int32)) ((v20 + (1 : Int32)))).bind fun σ21 =>
            some ((1 : Int32), σ21)
set_option maxRecDepth 20000 in
theorem l_X12_isPullerHere (b : Nat) (h0 : q_H) (σ : r_S) (a1 : Int32) {r : Int32} {s' : r_S} (hm : t_X12_isPullerHere σ a1 = some (r, s')) : m_X12_isPullerHere (r_H b σ h0) b a1 = some (r, r_H b s' h0) := by
  unfold t_X12_isPullerHere at hm
  unfold m_X12_isPullerHere
  refine r_gn_7 ?_
  refine r_ai_7 hm (fun v2 hm => ?_)
  refine r_if _ _ hm (fun _ hm => ?_) (fun _ hm => ?_)
  · refine r_cS (fun r9 s9 e9 => l_X12_fails _ _ _ _ _ e9) hm (fun r22 σ23 hm => ?_)
    exact r_retS hm
  · refine r_cV (fun s9 e9 => l_X12_passWord _ _ _  e9) hm (fun σ4 hm => ?_)
    refine r_gn_7 ?_
    refine r_ai_7 hm (fun v6 hm => ?_)
    refine r_cS (fun r9 s9 e9 => l_X12_cellHere _ _ _ _ _ _ e9) hm (fun r7 σ8 hm => ?_)
    refine r_if _ _ hm (fun _ hm => ?_) (fun _ hm => ?_)
    · exact r_retS hm
    · refine r_cS (fun r9 s9 e9 => l_X12_cellHere _ _ _ _ _ _ e9) hm (fun r10 σ11 hm => ?_)
      refine r_if _ _ hm (fun _ hm => ?_) (fun _ hm => ?_)
      · exact r_retS hm
      · refine r_cS (fun r9 s9 e9 => l_X12_cellHere _ _ _ _ _ _ e9) hm (fun r13 σ14 hm => ?_)
        refine r_if _ _ hm (fun _ hm => ?_) (fun _ hm => ?_)
        · exact r_retS hm
        · refine r_cS (fun r9 s9 e9 => l_X12_cellHere _ _ _ _ _ _ e9) hm (fun r16 σ17 hm => ?_)
          refine r_if _ _ hm (fun _ hm => ?_) (fun _ hm => ?_)
          · exact r_retS hm
          · refine r_gn_7 ?_
            refine r_ai_7 hm (fun v20 hm => ?_)
            refine r_as_7 hm (fun σ21 hm => ?_)
            exact r_retS hm
def t_X12_isRibbonHere (σ : r_S) (a1 : Int32) : Option (Int32 × r_S) :=
  (t_ai 85 (r_A σ 7) ((4 : Int32))).bind fun v2 =>
  if v2 ≤ 0 then
    (t_X12_passWord σ).bind fun σ4 =>
    (t_ai 85 (r_A σ4 7) ((1 : Int32))).bind fun v6 =>
    (t_X12_numberHere σ4 ((0 : Int32)) ((((2 : Int32) * v6) - (2 : Int32)))).bind fun (r7, σ8) =>
    if r7 = 0 then
      some ((0 : Int32), σ8)
    else
      (t_si 85 σ8 7 ((4 : Int32)) ((1 : Int32))).bind fun σ11 =>
      let v13 := r_I σ11 10
      (t_ai 85 (r_A σ11 7) ((1 : Int32))).bind fun v15 =>
      (t_si 85 σ11 7 ((84 : Int32)) (((v13 - v15) + (1 : Int32)))).bind fun σ16 =>
      some ((1 : Int32), σ16)
  else
    (t_X12_fails σ ((4 : Int32)) a1).bind fun (r17, σ18) =>
    some (r17, σ18)
set_option maxRecDepth 20000 in
theorem l_X12_isRibbonHere (b : Nat) (h0 : q_H) (σ : r_S) (a1 : Int32) {r : Int32} {s' : r_S} (hm : t_X12_isRibbonHere σ a1 = some (r, s')) : m_X12_isRibbonHere (r_H b σ h0) b a1 = some (r, r_H b s' h0) := by
  unfold t_X12_isRibbonHere at hm
  unfold m_X12_isRibbonHere
  refine r_gn_7 ?_
  refine r_ai_7 hm (fun v2 hm => ?_)
  refine r_if _ _ hm (fun _ hm => ?_) (fun _ hm => ?_)
  · refine r_cV (fun s9 e9 => l_X12_passWord _ _ _  e9) hm (fun σ4 hm => ?_)
    refine r_gn_7 ?_
    refine r_ai_7 hm (fun v6 hm => ?_)
    refine r_cS (fun r9 s9 e9 => l_X12_numberHere _ _ _ _ _ e9) hm (fun r7 σ8 hm => ?_)
    refine r_if _ _ hm (fun _ hm => ?_) (fun _ hm => ?_)
    · exact r_retS hm
    · refine r_gn_7 ?_
      refine r_as_7 hm (fun σ11 hm => ?_)
      refine r_gn_7 ?_
      refine r_gi_10 ?_
      refine r_gn_7 ?_
      refine r_ai_7 hm (fun v15 hm => ?_)
      refine r_as_7 hm (fun σ16 hm => ?_)
      exact r_retS hm
  · refine r_cS (fun r9 s9 e9 => l_X12_fails _ _ _ _ _ e9) hm (fun r17 σ18 hm => ?_)
    exact r_retS hm
def t_X12_ropeLineHere (σ : r_S) (a1 : Int32) : Option (Int32 × r_S) :=
  (t_X12_isWord σ ((1919905893 : Int64))).bind fun (r1, σ2) =>
  if r1 = 0 then
    (t_ai 85 (r_A σ2 7) ((0 : Int32))).bind fun v5 =>
    if v5 = 0 then
      (t_X12_fails σ2 ((4 : Int32)) a1).bind fun (r15, σ16) =>
      some (r15, σ16)
    else
      (t_X12_isWord σ2 ((123649632527730 : Int64))).bind fun (r6, σ7) =>
      if r6 = 0 then
        (t_X12_isRibbonHere σ7 a1).bind fun (r9, σ10) =>
        some (r9, σ10)
      else
        (t_X12_isPullerHere σ7 a1).bind fun (r12, σ13) =>
        some (r12, σ13)
  else
    (t_X12_isRopeHere σ2 a1).bind fun (r18, σ19) =>
    some (r18, σ19)
set_option maxRecDepth 20000 in
theorem l_X12_ropeLineHere (b : Nat) (h0 : q_H) (σ : r_S) (a1 : Int32) {r : Int32} {s' : r_S} (hm : t_X12_ropeLineHere σ a1 = some (r, s')) : m_X12_ropeLineHere (r_H b σ h0) b a1 = some (r, r_H b s' h0) := by
  unfold t_X12_ropeLineHere at hm
  unfold m_X12_ropeLineHere
  refine r_cS (fun r9 s9 e9 => l_X12_isWord _ _ _ _ e9) hm (fun r1 σ2 hm => ?_)
  refine r_if _ _ hm (fun _ hm => ?_) (fun _ hm => ?_)
  · refine r_gn_7 ?_
    refine r_ai_7 hm (fun v5 hm => ?_)
    refine r_if _ _ hm (fun _ hm => ?_) (fun _ hm => ?_)
    · refine r_cS (fun r9 s9 e9 => l_X12_fails _ _ _ _ _ e9) hm (fun r15 σ16 hm => ?_)
      exact r_retS hm
    · refine r_cS (fun r9 s9 e9 => l_X12_isWord _ _ _ _ e9) hm (fun r6 σ7 hm => ?_)
      refine r_if _ _ hm (fun _ hm => ?_) (fun _ hm => ?_)
      · refine r_cS (fun r9 s9 e9 => l_X12_isRibbonHere _ _ _ _ e9) hm (fun r9 σ10 hm => ?_)
        exact r_retS hm
      · refine r_cS (fun r9 s9 e9 => l_X12_isPullerHere _ _ _ _ e9) hm (fun r12 σ13 hm => ?_)
        exact r_retS hm
  · refine r_cS (fun r9 s9 e9 => l_X12_isRopeHere _ _ _ _ e9) hm (fun r18 σ19 hm => ?_)
    exact r_retS hm
