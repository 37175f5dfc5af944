theorem u_si_P {n k : Nat} {s s' : g_S} {i x : Int32} (e : u_si n s k i x = some s') : g_P s' = g_P s := by
  unfold u_si at e
  split at e
  · cases e; rfl
  · cases e
theorem u_sl_P {n k : Nat} {s s' : g_S} {i : Int32} {x : Int64} (e : u_sl n s k i x = some s') : g_P s' = g_P s := by
  unfold u_sl at e
  split at e
  · cases e; rfl
  · cases e
theorem e_pi {α γ : Type} {Q : α → Prop} {o : Option γ} {f : γ → Option α} {A B : γ → Prop} (e : ∃ x, o = some x ∧ A x ∧ B x) (k : ∀ x, A x → B x → q_E (f x) Q) : q_E (o.bind f) Q := by
  obtain ⟨x, e, a, b⟩ := e
  exact e_bd e (k x a b)
theorem p_bd {α γ : Type} {ρ : α} {o : Option γ} {v : γ} {f : γ → Option α} (e : o = some v) (k : f v = some ρ) : o.bind f = some ρ := by rw [e]; exact k
theorem p_eq {α β γ : Type} {ρ : α} {τ : β} {o o' : Option γ} {f : γ → Option α} {g : γ → Option β} (e : o = o') (hm : o'.bind g = some τ) (k : ∀ w, g w = some τ → f w = some ρ) : o.bind f = some ρ := by
  rw [e]
  exact r_bd hm k
def t_X10_copyFrom (t q : g_S) : Option g_S :=
  let v1 := g_I q 0
  let t1 := g_si t 0 (v1)
  let v3 := g_I q 1
  let t2 := g_si t1 1 (v3)
  let v5 := g_I q 2
  let t3 := g_si t2 2 (v5)
  (u_cp 8 (g_A q 3) ((0 : Int32)) 8 t3 3 ((0 : Int32)) ((8 : Int32))).bind fun t4 =>
  (u_cp 8 (g_A q 4) ((0 : Int32)) 8 t4 4 ((0 : Int32)) ((8 : Int32))).bind fun t5 =>
  (u_cp 8 (g_A q 5) ((0 : Int32)) 8 t5 5 ((0 : Int32)) ((8 : Int32))).bind fun t6 =>
  (u_cp 8 (g_A q 6) ((0 : Int32)) 8 t6 6 ((0 : Int32)) ((8 : Int32))).bind fun t7 =>
  some t7
set_option maxRecDepth 20000 in
theorem l_X10_copyFrom (h : q_H) (pt pq : Nat) (t q : g_S) {t' : g_S} (hm : t_X10_copyFrom t q = some t') (Gt : g10 pt t h) (Gq : g10 pq q h) (Dtq : ∀ a, f10 pt a → f10 pq a → False) : q_E (m_X10_copyFrom h pt pq) (fun x => g10 pt t' (x) ∧ ∀ a, ¬ (f10 pt a) → (x) a = h a) := by
  unfold t_X10_copyFrom at hm
  unfold m_X10_copyFrom
  have FR : ∀ a, ¬ (f10 pt a) → h a = h a := fun _ _ => rfl
  refine e_bd (gi10_0 Gq) ?_
  refine e_pi (pi10_0 _ Gt) (fun h2 Gt F => ?_)
  have Gq := fr10 Gq (fun a ha => F a (fun hb => Dtq _ hb ha))
  have FR := fun a na => (F a (fun hb => na (hb))).trans (FR a na)
  refine e_bd (gi10_1 Gq) ?_
  refine e_pi (pi10_1 _ Gt) (fun h4 Gt F => ?_)
  have Gq := fr10 Gq (fun a ha => F a (fun hb => Dtq _ hb ha))
  have FR := fun a na => (F a (fun hb => na (hb))).trans (FR a na)
  refine e_bd (gi10_2 Gq) ?_
  refine e_pi (pi10_2 _ Gt) (fun h6 Gt F => ?_)
  have Gq := fr10 Gq (fun a ha => F a (fun hb => Dtq _ hb ha))
  have FR := fun a na => (F a (fun hb => na (hb))).trans (FR a na)
  refine e_bd (gn10_3 Gq) ?_
  refine e_bd (gn10_3 Gt) ?_
  obtain ⟨t4, e8, hm⟩ := q_b hm
  obtain ⟨h9, e9, Gt, F⟩ := cp10_3 Gt (cl10_3 Gq) e8
  refine e_bd e9 ?_
  have Gq := fr10 Gq (fun a ha => F a (fun hb => Dtq _ hb ha))
  have FR := fun a na => (F a (fun hb => na (hb))).trans (FR a na)
  refine e_bd (gn10_4 Gq) ?_
  refine e_bd (gn10_4 Gt) ?_
  obtain ⟨t5, e8, hm⟩ := q_b hm
  obtain ⟨h12, e9, Gt, F⟩ := cp10_4 Gt (cl10_4 Gq) e8
  refine e_bd e9 ?_
  have Gq := fr10 Gq (fun a ha => F a (fun hb => Dtq _ hb ha))
  have FR := fun a na => (F a (fun hb => na (hb))).trans (FR a na)
  refine e_bd (gn10_5 Gq) ?_
  refine e_bd (gn10_5 Gt) ?_
  obtain ⟨t6, e8, hm⟩ := q_b hm
  obtain ⟨h15, e9, Gt, F⟩ := cp10_5 Gt (cl10_5 Gq) e8
  refine e_bd e9 ?_
  have Gq := fr10 Gq (fun a ha => F a (fun hb => Dtq _ hb ha))
  have FR := fun a na => (F a (fun hb => na (hb))).trans (FR a na)
  refine e_bd (gn10_6 Gq) ?_
  refine e_bd (gn10_6 Gt) ?_
  obtain ⟨t7, e8, hm⟩ := q_b hm
  obtain ⟨h18, e9, Gt, F⟩ := cp10_6 Gt (cl10_6 Gq) e8
  refine e_bd e9 ?_
  have Gq := fr10 Gq (fun a ha => F a (fun hb => Dtq _ hb ha))
  have FR := fun a na => (F a (fun hb => na (hb))).trans (FR a na)
  obtain rfl := Option.some.inj hm
  exact ⟨_, rfl, Gt, FR⟩
def t_X10_isOver (t : g_S) (a1 : Int32) : Option Int32 :=
  let v1 := g_I t 0
  if a1 ≤ v1 then
    some ((1 : Int32))
  else
    let v2 := g_I t 0
    if (0 - a1) < v2 then
      some ((0 : Int32))
    else
      some ((1 : Int32))
set_option maxRecDepth 20000 in
theorem l_X10_isOver (h : q_H) (pt : Nat) (t : g_S) (a1 : Int32) {r : Int32} (hm : t_X10_isOver t a1 = some r) (Gt : g10 pt t h) : m_X10_isOver h pt a1 = some r := by
  unfold t_X10_isOver at hm
  unfold m_X10_isOver
  refine p_bd (gi10_0 Gt) ?_
  refine r_if _ _ hm (fun _ hm => ?_) (fun _ hm => ?_)
  · exact hm
  · refine p_bd (gi10_0 Gt) ?_
    refine r_if _ _ hm (fun _ hm => ?_) (fun _ hm => ?_)
    · exact hm
    · exact hm
def t_X10_setOnSide_29 (k5 : g_S → Int32 → Int32 → Int32 → Int32 → Option Int32) (t : g_S) (x1 : Int32) (x2 : Int32) (x3 : Int32) (x4 : Int32) : Option Int32 :=
  k5 t x1 x2 x3 ((x4 + (1 : Int32)))
set_option maxRecDepth 20000 in
theorem l_X10_setOnSide_29 (pt : Nat) {r : Int32} {k5 : g_S → Int32 → Int32 → Int32 → Int32 → Option Int32} {gk5 : q_H → Nat → Int32 → Int32 → Int32 → Int32 → Option Int32} (hk5 : ∀ (h : q_H) (t : g_S) (x1 : Int32) (x2 : Int32) (x3 : Int32) (x4 : Int32), k5 t x1 x2 x3 x4 = some r → g10 pt t h → gk5 h pt x1 x2 x3 x4 = some r) : ∀ (h : q_H) (t : g_S) (x1 : Int32) (x2 : Int32) (x3 : Int32) (x4 : Int32), t_X10_setOnSide_29 k5 t x1 x2 x3 x4 = some r → g10 pt t h → m_X10_setOnSide_29 gk5 h pt x1 x2 x3 x4 = some r := by
  intro h t x1 x2 x3 x4 hm Gt 
  unfold t_X10_setOnSide_29 at hm
  unfold m_X10_setOnSide_29
  exact hk5 _ _ _ _ _ _ hm Gt 
def t_X10_setOnSide_5  : Nat → g_S → Int32 → Int32 → Int32 → Int32 → Option Int32
  | 0, _, _, _, _, _ => none
  | n + 1, t, x1, x2, x3, x4 =>
    if x2 ≤ x4 then
      some x3
    else
      (t_ai 8 (g_A t 3) x4).bind fun v2 =>
      if v2 = x1 then
        t_X10_setOnSide_29 (t_X10_setOnSide_5 n) t x1 x2 ((x3 ||| ((1 : Int32) <<< (x4 &&& 31)))) x4
      else
        t_X10_setOnSide_29 (t_X10_setOnSide_5 n) t x1 x2 x3 x4
set_option maxRecDepth 20000 in
theorem l_X10_setOnSide_5 (pt : Nat) {r : Int32} : ∀ (n : Nat) (h : q_H) (t : g_S) (x1 : Int32) (x2 : Int32) (x3 : Int32) (x4 : Int32), t_X10_setOnSide_5 n t x1 x2 x3 x4 = some r → g10 pt t h → m_X10_setOnSide_5 n h pt x1 x2 x3 x4 = some r := by
  intro n
  induction n with
  | zero => intro h t x1 x2 x3 x4 hm Gt ; cases hm
  | succ n ih =>
    intro h t x1 x2 x3 x4 hm Gt 
    unfold t_X10_setOnSide_5 at hm
    unfold m_X10_setOnSide_5
    refine r_if _ _ hm (fun _ hm => ?_) (fun _ hm => ?_)
    · exact hm
    · refine p_bd (gn10_3 Gt) ?_
      refine p_eq (ai10_3 Gt _) hm (fun v2 hm => ?_)
      refine r_if _ _ hm (fun _ hm => ?_) (fun _ hm => ?_)
      · exact l_X10_setOnSide_29 pt ih _ _ _ _ _ _ hm Gt 
      · exact l_X10_setOnSide_29 pt ih _ _ _ _ _ _ hm Gt 
def t_X10_setOnSide (t : g_S) (a1 : Int32) (a2 : Int32) : Option Int32 :=
  t_X10_setOnSide_5 q_fu t a1 a2 ((0 : Int32)) ((0 : Int32))
set_option maxRecDepth 20000 in
theorem l_X10_setOnSide (h : q_H) (pt : Nat) (t : g_S) (a1 : Int32) (a2 : Int32) {r : Int32} (hm : t_X10_setOnSide t a1 a2 = some r) (Gt : g10 pt t h) : m_X10_setOnSide h pt a1 a2 = some r := by
  unfold t_X10_setOnSide at hm
  unfold m_X10_setOnSide
  exact l_X10_setOnSide_5 pt _ _ _ _ _ _ _ hm Gt 
def t_X10_stands (t : g_S) (a1 : Int32) : Option Int32 :=
  let v1 := g_I t 2
  if ((v1 >>> (a1 &&& 31)) &&& (1 : Int32)) = (1 : Int32) then
    some ((1 : Int32))
  else
    some ((0 : Int32))
set_option maxRecDepth 20000 in
theorem l_X10_stands (h : q_H) (pt : Nat) (t : g_S) (a1 : Int32) {r : Int32} (hm : t_X10_stands t a1 = some r) (Gt : g10 pt t h) : m_X10_stands h pt a1 = some r := by
  unfold t_X10_stands at hm
  unfold m_X10_stands
  refine p_bd (gi10_2 Gt) ?_
  refine r_if _ _ hm (fun _ hm => ?_) (fun _ hm => ?_)
  · exact hm
  · exact hm
def t_X10_towards (t : g_S) (a1 : Int32) : Option Int32 :=
  if a1 = 0 then
    let v2 := g_I t 0
    some ((0 - v2))
  else
    let v1 := g_I t 0
    some v1
set_option maxRecDepth 20000 in
theorem l_X10_towards (h : q_H) (pt : Nat) (t : g_S) (a1 : Int32) {r : Int32} (hm : t_X10_towards t a1 = some r) (Gt : g10 pt t h) : m_X10_towards h pt a1 = some r := by
  unfold t_X10_towards at hm
  unfold m_X10_towards
  refine r_if _ _ hm (fun _ hm => ?_) (fun _ hm => ?_)
  · refine p_bd (gi10_0 Gt) ?_
    exact hm
  · refine p_bd (gi10_0 Gt) ?_
    exact hm
def t_X4_everyone (o : g_S) : Option Int32 :=
  let v1 := g_I o 3
  some ((((1 : Int32) <<< (v1 &&& 31)) - (1 : Int32)))
set_option maxRecDepth 20000 in
theorem l_X4_everyone (h : q_H) (po : Nat) (o : g_S) {r : Int32} (hm : t_X4_everyone o = some r) (Go : g4 po o h) : m_X4_everyone h po = some r := by
  unfold t_X4_everyone at hm
  unfold m_X4_everyone
  refine p_bd (gi4_3 Go) ?_
  exact hm
def t_X9_byteAt (t : g_S) (a1 : Int32) : Option Int32 :=
  if a1 < 0 then
    some ((-1 : Int32))
  else
    let v1 := g_I t 1
    if a1 < v1 then
      (t_ai 400 (g_A t 0) a1).bind fun v3 =>
      some ((v3 &&& (255 : Int32)))
    else
      some ((-1 : Int32))
set_option maxRecDepth 20000 in
theorem l_X9_byteAt (h : q_H) (pt : Nat) (t : g_S) (a1 : Int32) {r : Int32} (hm : t_X9_byteAt t a1 = some r) (Gt : g9 pt t h) : m_X9_byteAt h pt a1 = some r := by
  unfold t_X9_byteAt at hm
  unfold m_X9_byteAt
  refine r_if _ _ hm (fun _ hm => ?_) (fun _ hm => ?_)
  · exact hm
  · refine p_bd (gi9_1 Gt) ?_
    refine r_if _ _ hm (fun _ hm => ?_) (fun _ hm => ?_)
    · refine p_bd (gn9_0 Gt) ?_
      refine p_eq (ai9_0 Gt _) hm (fun v3 hm => ?_)
      exact hm
    · exact hm
def t_X3_behind_3  : Nat → g_S → g_S → Int32 → Int32 → Int32 → Option Int32
  | 0, _, _, _, _, _ => none
  | n + 1, d, t, x2, x3, x4 =>
    let v2 := g_I t 1
    if v2 ≤ x4 then
      some x4
    else
      (t_X9_byteAt t x4).bind fun r4 =>
      if r4 < x2 then
        some x4
      else
        if r4 ≤ x3 then
          t_X3_behind_3 n d t x2 x3 ((x4 + (1 : Int32)))
        else
          some x4
set_option maxRecDepth 20000 in
theorem l_X3_behind_3 (pd pt : Nat) (Ddt : ∀ a, f3 pd a → f9 pt a → False) {r : Int32} : ∀ (n : Nat) (h : q_H) (d t : g_S) (x2 : Int32) (x3 : Int32) (x4 : Int32), t_X3_behind_3 n d t x2 x3 x4 = some r → g3 pd d h → g9 pt t h → g_P d 0 = some pt → m_X3_behind_3 n h pd x2 x3 x4 = some r := by
  intro n
  induction n with
  | zero => intro h d t x2 x3 x4 hm Gd Gt Et; cases hm
  | succ n ih =>
    intro h d t x2 x3 x4 hm Gd Gt Et
    unfold t_X3_behind_3 at hm
    unfold m_X3_behind_3
    refine p_bd (gp3_0 Gd Et) ?_
    refine p_bd (gi9_1 Gt) ?_
    refine r_if _ _ hm (fun _ hm => ?_) (fun _ hm => ?_)
    · exact hm
    · refine p_bd (gp3_0 Gd Et) ?_
      obtain ⟨r4, e8, hm⟩ := q_b hm
      refine p_bd ((ca9 Gt).trans (l_X9_byteAt _ _ _ _ e8 Gt  )) ?_
      refine r_if _ _ hm (fun _ hm => ?_) (fun _ hm => ?_)
      · exact hm
      · refine r_if _ _ hm (fun _ hm => ?_) (fun _ hm => ?_)
        · exact ih _ _ _ _ _ _ hm Gd Gt Et
        · exact hm
def t_X3_behind (d t : g_S) (a1 : Int32) (a2 : Int32) (a3 : Int32) : Option Int32 :=
  t_X3_behind_3 q_fu d t a2 a3 a1
set_option maxRecDepth 20000 in
theorem l_X3_behind (h : q_H) (pd pt : Nat) (d t : g_S) (a1 : Int32) (a2 : Int32) (a3 : Int32) {r : Int32} (hm : t_X3_behind d t a1 a2 a3 = some r) (Gd : g3 pd d h) (Gt : g9 pt t h) (Et : g_P d 0 = some pt) (Ddt : ∀ a, f3 pd a → f9 pt a → False) : m_X3_behind h pd a1 a2 a3 = some r := by
  unfold t_X3_behind at hm
  unfold m_X3_behind
  exact l_X3_behind_3 pd pt Ddt _ _ _ _ _ _ _ hm Gd Gt Et
def t_X3_numberIn_14  : Nat → g_S → g_S → Int32 → Int32 → Int32 → Option Int32
  | 0, _, _, _, _, _ => none
  | n + 1, d, t, x2, x3, x4 =>
    if x2 ≤ x4 then
      some x3
    else
      (t_X9_byteAt t x4).bind fun r2 =>
      t_X3_numberIn_14 n d t x2 ((((x3 * (10 : Int32)) + r2) - (48 : Int32))) ((x4 + (1 : Int32)))
set_option maxRecDepth 20000 in
theorem l_X3_numberIn_14 (pd pt : Nat) (Ddt : ∀ a, f3 pd a → f9 pt a → False) {r : Int32} : ∀ (n : Nat) (h : q_H) (d t : g_S) (x2 : Int32) (x3 : Int32) (x4 : Int32), t_X3_numberIn_14 n d t x2 x3 x4 = some r → g3 pd d h → g9 pt t h → g_P d 0 = some pt → m_X3_numberIn_14 n h pd x2 x3 x4 = some r := by
  intro n
  induction n with
  | zero => intro h d t x2 x3 x4 hm Gd Gt Et; cases hm
  | succ n ih =>
    intro h d t x2 x3 x4 hm Gd Gt Et
    unfold t_X3_numberIn_14 at hm
    unfold m_X3_numberIn_14
    refine r_if _ _ hm (fun _ hm => ?_) (fun _ hm => ?_)
    · exact hm
    · refine p_bd (gp3_0 Gd Et) ?_
      obtain ⟨r2, e8, hm⟩ := q_b hm
      refine p_bd ((ca9 Gt).trans (l_X9_byteAt _ _ _ _ e8 Gt  )) ?_
      exact ih _ _ _ _ _ _ hm Gd Gt Et
def t_X3_numberIn (d t : g_S) (a1 : Int32) (a2 : Int32) : Option Int32 :=
  if (a2 - a1) ≤ (5 : Int32) then
    t_X3_numberIn_14 q_fu d t a2 ((0 : Int32)) a1
  else
    some ((-1 : Int32))
set_option maxRecDepth 20000 in
theorem l_X3_numberIn (h : q_H) (pd pt : Nat) (d t : g_S) (a1 : Int32) (a2 : Int32) {r : Int32} (hm : t_X3_numberIn d t a1 a2 = some r) (Gd : g3 pd d h) (Gt : g9 pt t h) (Et : g_P d 0 = some pt) (Ddt : ∀ a, f3 pd a → f9 pt a → False) : m_X3_numberIn h pd a1 a2 = some r := by
  unfold t_X3_numberIn at hm
  unfold m_X3_numberIn
  refine r_if _ _ hm (fun _ hm => ?_) (fun _ hm => ?_)
  · exact l_X3_numberIn_14 pd pt Ddt _ _ _ _ _ _ _ hm Gd Gt Et
  · exact hm
def t_X3_add (d : g_S) (a1 : Int32) (a2 : Int32) (a3 : Int32) : Option g_S :=
  let v1 := g_I d 4
  if (400 : Int32) < v1 then
    some d
  else
    let v3 := g_I d 4
    (u_si 401 d 1 v3 a1).bind fun d1 =>
    let v6 := g_I d1 4
    (u_si 401 d1 2 v6 a2).bind fun d2 =>
    let v9 := g_I d2 4
    (u_si 401 d2 3 v9 a3).bind fun d3 =>
    let v11 := g_I d3 4
    let d4 := g_si d3 4 (v11 + (1 : Int32))
    some d4
set_option maxRecDepth 20000 in
theorem l_X3_add (h : q_H) (pd : Nat) (d : g_S) (a1 : Int32) (a2 : Int32) (a3 : Int32) {d' : g_S} (hm : t_X3_add d a1 a2 a3 = some d') (Gd : g3 pd d h) : q_E (m_X3_add h pd a1 a2 a3) (fun x => g3 pd d' (x) ∧ g_P d' = g_P d ∧ ∀ a, ¬ (f3 pd a) → (x) a = h a) := by
  unfold t_X3_add at hm
  unfold m_X3_add
  have FR : ∀ a, ¬ (f3 pd a) → h a = h a := fun _ _ => rfl
  have Qd : g_P d = g_P d := rfl
  refine e_bd (gi3_4 Gd) ?_
  refine e_if hm (fun _ hm => ?_) (fun _ hm => ?_)
  · obtain rfl := Option.some.inj hm
    exact ⟨_, rfl, Gd, Qd, FR⟩
  · refine e_bd (gn3_1 Gd) ?_
    refine e_bd (gi3_4 Gd) ?_
    obtain ⟨d1, e8, hm⟩ := q_b hm
    obtain ⟨h4, e9, Gd, F⟩ := as3_1 Gd e8
    have Qd := (u_si_P e8).trans Qd
    refine e_bd e9 ?_
    have FR := fun a na => (F a (fun hb => na (hb))).trans (FR a na)
    refine e_bd (gn3_2 Gd) ?_
    refine e_bd (gi3_4 Gd) ?_
    obtain ⟨d2, e8, hm⟩ := q_b hm
    obtain ⟨h7, e9, Gd, F⟩ := as3_2 Gd e8
    have Qd := (u_si_P e8).trans Qd
    refine e_bd e9 ?_
    have FR := fun a na => (F a (fun hb => na (hb))).trans (FR a na)
    refine e_bd (gn3_3 Gd) ?_
    refine e_bd (gi3_4 Gd) ?_
    obtain ⟨d3, e8, hm⟩ := q_b hm
    obtain ⟨h10, e9, Gd, F⟩ := as3_3 Gd e8
    have Qd := (u_si_P e8).trans Qd
    refine e_bd e9 ?_
    have FR := fun a na => (F a (fun hb => na (hb))).trans (FR a na)
    refine e_bd (gi3_4 Gd) ?_
    refine e_pi (pi3_4 _ Gd) (fun h12 Gd F => ?_)
    have FR := fun a na => (F a (fun hb => na (hb))).trans (FR a na)
    obtain rfl := Option.some.inj hm
    exact ⟨_, rfl, Gd, Qd, FR⟩
def t_X3_next_23 (d : g_S) : Option g_S :=
  let v6 := g_I d 5
  (t_ai 401 (g_A d 1) v6).bind fun v7 =>
  let d2 := g_si d 6 (v7)
  let v10 := g_I d2 5
  (t_ai 401 (g_A d2 2) v10).bind fun v11 =>
  let d3 := g_si d2 7 (v11)
  some d3
set_option maxRecDepth 20000 in
theorem l_X3_next_23 (pd : Nat) {d' : g_S} : ∀ (h : q_H) (d : g_S), t_X3_next_23 d = some d' → g3 pd d h → q_E (m_X3_next_23 h pd) (fun x => g3 pd d' (x) ∧ g_P d' = g_P d ∧ ∀ a, ¬ (f3 pd a) → (x) a = h a) := by
  intro h d  hm Gd 
  unfold t_X3_next_23 at hm
  unfold m_X3_next_23
  have FR : ∀ a, ¬ (f3 pd a) → h a = h a := fun _ _ => rfl
  have Qd : g_P d = g_P d := rfl
  refine e_bd (gn3_1 Gd) ?_
  refine e_bd (gi3_5 Gd) ?_
  refine e_eq (ai3_1 Gd _) hm (fun v7 hm => ?_)
  refine e_pi (pi3_6 _ Gd) (fun h8 Gd F => ?_)
  have FR := fun a na => (F a (fun hb => na (hb))).trans (FR a na)
  refine e_bd (gn3_2 Gd) ?_
  refine e_bd (gi3_5 Gd) ?_
  refine e_eq (ai3_2 Gd _) hm (fun v11 hm => ?_)
  refine e_pi (pi3_7 _ Gd) (fun h12 Gd F => ?_)
  have FR := fun a na => (F a (fun hb => na (hb))).trans (FR a na)
  obtain rfl := Option.some.inj hm
  exact ⟨_, rfl, Gd, Qd, FR⟩
def t_X3_next (d : g_S) : Option g_S :=
  let v1 := g_I d 5
  let v2 := g_I d 4
  if v2 ≤ (v1 + (1 : Int32)) then
    t_X3_next_23 d
  else
    let v3 := g_I d 5
    let d1 := g_si d 5 (v3 + (1 : Int32))
    t_X3_next_23 d1
set_option maxRecDepth 20000 in
theorem l_X3_next (h : q_H) (pd : Nat) (d : g_S) {d' : g_S} (hm : t_X3_next d = some d') (Gd : g3 pd d h) : q_E (m_X3_next h pd) (fun x => g3 pd d' (x) ∧ g_P d' = g_P d ∧ ∀ a, ¬ (f3 pd a) → (x) a = h a) := by
  unfold t_X3_next at hm
  unfold m_X3_next
  have FR : ∀ a, ¬ (f3 pd a) → h a = h a := fun _ _ => rfl
  have Qd : g_P d = g_P d := rfl
  refine e_bd (gi3_5 Gd) ?_
  refine e_bd (gi3_4 Gd) ?_
  refine e_if hm (fun _ hm => ?_) (fun _ hm => ?_)
  · obtain ⟨x9, e9, Gd, Rd, F⟩ := l_X3_next_23 pd _ _ hm Gd 
    exact ⟨x9, e9, Gd, Rd.trans Qd, fun a na => (F a na).trans (FR a na)⟩
  · refine e_bd (gi3_5 Gd) ?_
    refine e_pi (pi3_5 _ Gd) (fun h4 Gd F => ?_)
    have FR := fun a na => (F a (fun hb => na (hb))).trans (FR a na)
    obtain ⟨x9, e9, Gd, Rd, F⟩ := l_X3_next_23 pd _ _ hm Gd 
    exact ⟨x9, e9, Gd, Rd.trans Qd, fun a na => (F a na).trans (FR a na)⟩
def t_X3_refuse (d : g_S) (a1 : Int32) : Option (Int32 × g_S) :=
  let v1 := g_I d 8
  if v1 = 0 then
    let v3 := g_I d 5
    (t_ai 401 (g_A d 3) v3).bind fun v4 =>
    let d1 := g_si d 8 (((1 : Int32) + ((8 : Int32) * v4)) + a1)
    some ((0 : Int32), d1)
  else
    some ((0 : Int32), d)
set_option maxRecDepth 20000 in
theorem l_X3_refuse (h : q_H) (pd : Nat) (d : g_S) (a1 : Int32) {r : Int32} {d' : g_S} (hm : t_X3_refuse d a1 = some (r, d')) (Gd : g3 pd d h) : q_E (m_X3_refuse h pd a1) (fun x => x.1 = r ∧ g3 pd d' (x.2) ∧ g_P d' = g_P d ∧ ∀ a, ¬ (f3 pd a) → (x.2) a = h a) := by
  unfold t_X3_refuse at hm
  unfold m_X3_refuse
  have FR : ∀ a, ¬ (f3 pd a) → h a = h a := fun _ _ => rfl
  have Qd : g_P d = g_P d := rfl
  refine e_bd (gi3_8 Gd) ?_
  refine e_if hm (fun _ hm => ?_) (fun _ hm => ?_)
  · refine e_bd (gn3_3 Gd) ?_
    refine e_bd (gi3_5 Gd) ?_
    refine e_eq (ai3_3 Gd _) hm (fun v4 hm => ?_)
    refine e_pi (pi3_8 _ Gd) (fun h5 Gd F => ?_)
    have FR := fun a na => (F a (fun hb => na (hb))).trans (FR a na)
    have hq0 := Option.some.inj hm
    clear hm
    obtain ⟨rfl, rfl⟩ := Prod.mk.inj hq0
    exact ⟨_, rfl, rfl, Gd, Qd, FR⟩
  · have hq0 := Option.some.inj hm
    clear hm
    obtain ⟨rfl, rfl⟩ := Prod.mk.inj hq0
    exact ⟨_, rfl, rfl, Gd, Qd, FR⟩
def t_X3_isNumber_32 (d : g_S) : Option (Int32 × g_S) :=
  (t_X3_refuse d ((1 : Int32))).bind fun (r7, d2) =>
  if r7 = 0 then
    some ((0 : Int32), d2)
  else
    some ((1 : Int32), d2)
set_option maxRecDepth 20000 in
theorem l_X3_isNumber_32 (pd : Nat) {r : Int32} {d' : g_S} : ∀ (h : q_H) (d : g_S), t_X3_isNumber_32 d = some (r, d') → g3 pd d h → q_E (m_X3_isNumber_32 h pd) (fun x => x.1 = r ∧ g3 pd d' (x.2) ∧ g_P d' = g_P d ∧ ∀ a, ¬ (f3 pd a) → (x.2) a = h a) := by
  intro h d  hm Gd 
  unfold t_X3_isNumber_32 at hm
  unfold m_X3_isNumber_32
  have FR : ∀ a, ¬ (f3 pd a) → h a = h a := fun _ _ => rfl
  have Qd : g_P d = g_P d := rfl
  obtain ⟨⟨r7, d2⟩, e8, hm⟩ := q_b hm
  have Gc := Gd
  obtain ⟨⟨r9, h8⟩, e9, e7, Gd, Rd, F⟩ := l_X3_refuse _ _ _ _ e8 Gd  
  dsimp only at e7 Gd F
  subst e7
  have Qd := Rd.trans Qd
  refine e_bd ((ca3 Gc).trans e9) ?_
  have FR := fun a na => (F a (fun hb => na (hb))).trans (FR a na)
  refine e_if hm (fun _ hm => ?_) (fun _ hm => ?_)
  · have hq0 := Option.some.inj hm
    clear hm
    obtain ⟨rfl, rfl⟩ := Prod.mk.inj hq0
    exact ⟨_, rfl, rfl, Gd, Qd, FR⟩
  · have hq0 := Option.some.inj hm
    clear hm
    obtain ⟨rfl, rfl⟩ := Prod.mk.inj hq0
    exact ⟨_, rfl, rfl, Gd, Qd, FR⟩
def t_X3_isNumber (d : g_S) (a1 : Int32) (a2 : Int32) : Option (Int32 × g_S) :=
  let v1 := g_I d 6
  if v1 = (601 : Int32) then
    let v2 := g_I d 7
    if v2 < a1 then
      t_X3_isNumber_32 d
    else
      let v3 := g_I d 7
      if v3 ≤ a2 then
        some ((1 : Int32), d)
      else
        t_X3_isNumber_32 d
  else
    (t_X3_refuse d ((0 : Int32))).bind fun (r4, d1) =>
    some (r4, d1)
set_option maxRecDepth 20000 in
theorem l_X3_isNumber (h : q_H) (pd : Nat) (d : g_S) (a1 : Int32) (a2 : Int32) {r : Int32} {d' : g_S} (hm : t_X3_isNumber d a1 a2 = some (r, d')) (Gd : g3 pd d h) : q_E (m_X3_isNumber h pd a1 a2) (fun x => x.1 = r ∧ g3 pd d' (x.2) ∧ g_P d' = g_P d ∧ ∀ a, ¬ (f3 pd a) → (x.2) a = h a) := by
  unfold t_X3_isNumber at hm
  unfold m_X3_isNumber
  have FR : ∀ a, ¬ (f3 pd a) → h a = h a := fun _ _ => rfl
  have Qd : g_P d = g_P d := rfl
  refine e_bd (gi3_6 Gd) ?_
  refine e_if hm (fun _ hm => ?_) (fun _ hm => ?_)
  · refine e_bd (gi3_7 Gd) ?_
    refine e_if hm (fun _ hm => ?_) (fun _ hm => ?_)
    · obtain ⟨x9, e9, e7, Gd, Rd, F⟩ := l_X3_isNumber_32 pd _ _ hm Gd 
      exact ⟨x9, e9, e7, Gd, Rd.trans Qd, fun a na => (F a na).trans (FR a na)⟩
    · refine e_bd (gi3_7 Gd) ?_
      refine e_if hm (fun _ hm => ?_) (fun _ hm => ?_)
      · have hq0 := Option.some.inj hm
        clear hm
        obtain ⟨rfl, rfl⟩ := Prod.mk.inj hq0
        exact ⟨_, rfl, rfl, Gd, Qd, FR⟩
      · obtain ⟨x9, e9, e7, Gd, Rd, F⟩ := l_X3_isNumber_32 pd _ _ hm Gd 
        exact ⟨x9, e9, e7, Gd, Rd.trans Qd, fun a na => (F a na).trans (FR a na)⟩
  · obtain ⟨⟨r4, d1⟩, e8, hm⟩ := q_b hm
    have Gc := Gd
    obtain ⟨⟨r9, h5⟩, e9, e7, Gd, Rd, F⟩ := l_X3_refuse _ _ _ _ e8 Gd  
    dsimp only at e7 Gd F
    subst e7
    have Qd := Rd.trans Qd
    refine e_bd ((ca3 Gc).trans e9) ?_
    have FR := fun a na => (F a (fun hb => na (hb))).trans (FR a na)
    have hq0 := Option.some.inj hm
    clear hm
    obtain ⟨rfl, rfl⟩ := Prod.mk.inj hq0
    exact ⟨_, rfl, rfl, Gd, Qd, FR⟩
def t_X3_goesOn (d : g_S) : Option (Int32 × g_S) :=
  let v1 := g_I d 6
  if v1 = (600 : Int32) then
    some ((0 : Int32), d)
  else
    let v2 := g_I d 6
    if v2 = (59 : Int32) then
      (t_X3_next d).bind fun d1 =>
      some ((1 : Int32), d1)
    else
      (t_X3_refuse d ((0 : Int32))).bind fun (r5, d2) =>
      some (r5, d2)
set_option maxRecDepth 20000 in
theorem l_X3_goesOn (h : q_H) (pd : Nat) (d : g_S) {r : Int32} {d' : g_S} (hm : t_X3_goesOn d = some (r, d')) (Gd : g3 pd d h) : q_E (m_X3_goesOn h pd) (fun x => x.1 = r ∧ g3 pd d' (x.2) ∧ g_P d' = g_P d ∧ ∀ a, ¬ (f3 pd a) → (x.2) a = h a) := by
  unfold t_X3_goesOn at hm
  unfold m_X3_goesOn
  have FR : ∀ a, ¬ (f3 pd a) → h a = h a := fun _ _ => rfl
  have Qd : g_P d = g_P d := rfl
  refine e_bd (gi3_6 Gd) ?_
  refine e_if hm (fun _ hm => ?_) (fun _ hm => ?_)
  · have hq0 := Option.some.inj hm
    clear hm
    obtain ⟨rfl, rfl⟩ := Prod.mk.inj hq0
    exact ⟨_, rfl, rfl, Gd, Qd, FR⟩
  · refine e_bd (gi3_6 Gd) ?_
    refine e_if hm (fun _ hm => ?_) (fun _ hm => ?_)
    · obtain ⟨d1, e8, hm⟩ := q_b hm
      have Gc := Gd
      obtain ⟨h4, e9, Gd, Rd, F⟩ := l_X3_next _ _ _ e8 Gd  
      have Qd := Rd.trans Qd
      refine e_bd ((ca3 Gc).trans e9) ?_
      have FR := fun a na => (F a (fun hb => na (hb))).trans (FR a na)
      have hq0 := Option.some.inj hm
      clear hm
      obtain ⟨rfl, rfl⟩ := Prod.mk.inj hq0
      exact ⟨_, rfl, rfl, Gd, Qd, FR⟩
    · obtain ⟨⟨r5, d2⟩, e8, hm⟩ := q_b hm
      have Gc := Gd
      obtain ⟨⟨r9, h6⟩, e9, e7, Gd, Rd, F⟩ := l_X3_refuse _ _ _ _ e8 Gd  
      dsimp only at e7 Gd F
      subst e7
      have Qd := Rd.trans Qd
      refine e_bd ((ca3 Gc).trans e9) ?_
      have FR := fun a na => (F a (fun hb => na (hb))).trans (FR a na)
      have hq0 := Option.some.inj hm
      clear hm
      obtain ⟨rfl, rfl⟩ := Prod.mk.inj hq0
      exact ⟨_, rfl, rfl, Gd, Qd, FR⟩
def t_X4_copyFrom (o q : g_S) : Option g_S :=
  let v1 := g_I q 0
  let o1 := g_si o 0 (v1)
  let v3 := g_I q 1
  let o2 := g_si o1 1 (v3)
  let v5 := g_I q 2
  let o3 := g_si o2 2 (v5)
  let v7 := g_I q 3
  let o4 := g_si o3 3 (v7)
  (u_cp 8 (g_A q 4) ((0 : Int32)) 8 o4 4 ((0 : Int32)) ((8 : Int32))).bind fun o5 =>
  (u_cp 8 (g_A q 5) ((0 : Int32)) 8 o5 5 ((0 : Int32)) ((8 : Int32))).bind fun o6 =>
  (u_cp 8 (g_A q 6) ((0 : Int32)) 8 o6 6 ((0 : Int32)) ((8 : Int32))).bind fun o7 =>
  (u_cp 8 (g_A q 7) ((0 : Int32)) 8 o7 7 ((0 : Int32)) ((8 : Int32))).bind fun o8 =>
  some o8
set_option maxRecDepth 20000 in
theorem l_X4_copyFrom (h : q_H) (po pq : Nat) (o q : g_S) {o' : g_S} (hm : t_X4_copyFrom o q = some o') (Go : g4 po o h) (Gq : g4 pq q h) (Doq : ∀ a, f4 po a → f4 pq a → False) : q_E (m_X4_copyFrom h po pq) (fun x => g4 po o' (x) ∧ ∀ a, ¬ (f4 po a) → (x) a = h a) := by
  unfold t_X4_copyFrom at hm
  unfold m_X4_copyFrom
  have FR : ∀ a, ¬ (f4 po a) → h a = h a := fun _ _ => rfl
  refine e_bd (gi4_0 Gq) ?_
  refine e_pi (pi4_0 _ Go) (fun h2 Go F => ?_)
  have Gq := fr4 Gq (fun a ha => F a (fun hb => Doq _ hb ha))
  have FR := fun a na => (F a (fun hb => na (hb))).trans (FR a na)
  refine e_bd (gi4_1 Gq) ?_
  refine e_pi (pi4_1 _ Go) (fun h4 Go F => ?_)
  have Gq := fr4 Gq (fun a ha => F a (fun hb => Doq _ hb ha))
  have FR := fun a na => (F a (fun hb => na (hb))).trans (FR a na)
  refine e_bd (gi4_2 Gq) ?_
  refine e_pi (pi4_2 _ Go) (fun h6 Go F => ?_)
  have Gq := fr4 Gq (fun a ha => F a (fun hb => Doq _ hb ha))
  have FR := fun a na => (F a (fun hb => na (hb))).trans (FR a na)
  refine e_bd (gi4_3 Gq) ?_
  refine e_pi (pi4_3 _ Go) (fun h8 Go F => ?_)
  have Gq := fr4 Gq (fun a ha => F a (fun hb => Doq _ hb ha))
  have FR := fun a na => (F a (fun hb => na (hb))).trans (FR a na)
  refine e_bd (gn4_4 Gq) ?_
  refine e_bd (gn4_4 Go) ?_
  obtain ⟨o5, e8, hm⟩ := q_b hm
  obtain ⟨h11, e9, Go, F⟩ := cp4_4 Go (cl4_4 Gq) e8
  refine e_bd e9 ?_
  have Gq := fr4 Gq (fun a ha => F a (fun hb => Doq _ hb ha))
  have FR := fun a na => (F a (fun hb => na (hb))).trans (FR a na)
  refine e_bd (gn4_5 Gq) ?_
  refine e_bd (gn4_5 Go) ?_
  obtain ⟨o6, e8, hm⟩ := q_b hm
  obtain ⟨h14, e9, Go, F⟩ := cp4_5 Go (cl4_5 Gq) e8
  refine e_bd e9 ?_
  have Gq := fr4 Gq (fun a ha => F a (fun hb => Doq _ hb ha))
  have FR := fun a na => (F a (fun hb => na (hb))).trans (FR a na)
  refine e_bd (gn4_6 Gq) ?_
  refine e_bd (gn4_6 Go) ?_
  obtain ⟨o7, e8, hm⟩ := q_b hm
  obtain ⟨h17, e9, Go, F⟩ := cp4_6 Go (cl4_6 Gq) e8
  refine e_bd e9 ?_
  have Gq := fr4 Gq (fun a ha => F a (fun hb => Doq _ hb ha))
  have FR := fun a na => (F a (fun hb => na (hb))).trans (FR a na)
  refine e_bd (gn4_7 Gq) ?_
  refine e_bd (gn4_7 Go) ?_
  obtain ⟨o8, e8, hm⟩ := q_b hm
  obtain ⟨h20, e9, Go, F⟩ := cp4_7 Go (cl4_7 Gq) e8
  refine e_bd e9 ?_
  have Gq := fr4 Gq (fun a ha => F a (fun hb => Doq _ hb ha))
  have FR := fun a na => (F a (fun hb => na (hb))).trans (FR a na)
  obtain rfl := Option.some.inj hm
  exact ⟨_, rfl, Go, FR⟩
def t_X4_weightOf_30 (k4 : g_S → Int32 → Int32 → Int32 → Option Int32) (o : g_S) (x1 : Int32) (x2 : Int32) (x3 : Int32) : Option Int32 :=
  k4 o x1 x2 ((x3 + (1 : Int32)))
set_option maxRecDepth 20000 in
theorem l_X4_weightOf_30 (po : Nat) {r : Int32} {k4 : g_S → Int32 → Int32 → Int32 → Option Int32} {gk4 : q_H → Nat → Int32 → Int32 → Int32 → Option Int32} (hk4 : ∀ (h : q_H) (o : g_S) (x1 : Int32) (x2 : Int32) (x3 : Int32), k4 o x1 x2 x3 = some r → g4 po o h → gk4 h po x1 x2 x3 = some r) : ∀ (h : q_H) (o : g_S) (x1 : Int32) (x2 : Int32) (x3 : Int32), t_X4_weightOf_30 k4 o x1 x2 x3 = some r → g4 po o h → m_X4_weightOf_30 gk4 h po x1 x2 x3 = some r := by
  intro h o x1 x2 x3 hm Go 
  unfold t_X4_weightOf_30 at hm
  unfold m_X4_weightOf_30
  exact hk4 _ _ _ _ _ hm Go 
def t_X4_weightOf_4  : Nat → g_S → Int32 → Int32 → Int32 → Option Int32
  | 0, _, _, _, _ => none
  | n + 1, o, x1, x2, x3 =>
    let v1 := g_I o 3
    if v1 ≤ x3 then
      some x2
    else
      if ((x1 >>> (x3 &&& 31)) &&& (1 : Int32)) = (1 : Int32) then
        (t_ai 8 (g_A o 5) x3).bind fun v3 =>
        t_X4_weightOf_30 (t_X4_weightOf_4 n) o x1 ((x2 + v3)) x3
      else
        t_X4_weightOf_30 (t_X4_weightOf_4 n) o x1 x2 x3
set_option maxRecDepth 20000 in
theorem l_X4_weightOf_4 (po : Nat) {r : Int32} : ∀ (n : Nat) (h : q_H) (o : g_S) (x1 : Int32) (x2 : Int32) (x3 : Int32), t_X4_weightOf_4 n o x1 x2 x3 = some r → g4 po o h → m_X4_weightOf_4 n h po x1 x2 x3 = some r := by
  intro n
  induction n with
  | zero => intro h o x1 x2 x3 hm Go ; cases hm
  | succ n ih =>
    intro h o x1 x2 x3 hm Go 
    unfold t_X4_weightOf_4 at hm
    unfold m_X4_weightOf_4
    refine p_bd (gi4_3 Go) ?_
    refine r_if _ _ hm (fun _ hm => ?_) (fun _ hm => ?_)
    · exact hm
    · refine r_if _ _ hm (fun _ hm => ?_) (fun _ hm => ?_)
      · refine p_bd (gn4_5 Go) ?_
        refine p_eq (ai4_5 Go _) hm (fun v3 hm => ?_)
        exact l_X4_weightOf_30 po ih _ _ _ _ _ hm Go 
      · exact l_X4_weightOf_30 po ih _ _ _ _ _ hm Go 
def t_X4_weightOf (o : g_S) (a1 : Int32) : Option Int32 :=
  t_X4_weightOf_4 q_fu o a1 ((0 : Int32)) ((0 : Int32))
set_option maxRecDepth 20000 in
theorem l_X4_weightOf (h : q_H) (po : Nat) (o : g_S) (a1 : Int32) {r : Int32} (hm : t_X4_weightOf o a1 = some r) (Go : g4 po o h) : m_X4_weightOf h po a1 = some r := by
  unfold t_X4_weightOf at hm
  unfold m_X4_weightOf
  exact l_X4_weightOf_4 po _ _ _ _ _ _ hm Go 
def t_X4_differenceBy (o : g_S) (a1 : Int32) : Option Int32 :=
  (t_X4_everyone o).bind fun r1 =>
  (t_X4_weightOf o r1).bind fun r3 =>
  (t_X4_weightOf o a1).bind fun r5 =>
  some ((if 0 ≤ (r3 - ((2 : Int32) * r5)) then (r3 - ((2 : Int32) * r5)) else 0 - (r3 - ((2 : Int32) * r5))))
set_option maxRecDepth 20000 in
theorem l_X4_differenceBy (h : q_H) (po : Nat) (o : g_S) (a1 : Int32) {r : Int32} (hm : t_X4_differenceBy o a1 = some r) (Go : g4 po o h) : m_X4_differenceBy h po a1 = some r := by
  unfold t_X4_differenceBy at hm
  unfold m_X4_differenceBy
  obtain ⟨r1, e8, hm⟩ := q_b hm
  refine p_bd ((ca4 Go).trans (l_X4_everyone _ _ _ e8 Go  )) ?_
  obtain ⟨r3, e8, hm⟩ := q_b hm
  refine p_bd ((ca4 Go).trans (l_X4_weightOf _ _ _ _ e8 Go  )) ?_
  obtain ⟨r5, e8, hm⟩ := q_b hm
  refine p_bd ((ca4 Go).trans (l_X4_weightOf _ _ _ _ e8 Go  )) ?_
  exact hm
def t_X4_outweighs (o : g_S) (a1 : Int32) : Option Int32 :=
  (t_X4_weightOf o a1).bind fun r1 =>
  (t_X4_everyone o).bind fun r3 =>
  (t_X4_weightOf o r3).bind fun r5 =>
  if ((2 : Int32) * r1) ≤ r5 then
    some ((0 : Int32))
  else
    some ((1 : Int32))
set_option maxRecDepth 20000 in
theorem l_X4_outweighs (h : q_H) (po : Nat) (o : g_S) (a1 : Int32) {r : Int32} (hm : t_X4_outweighs o a1 = some r) (Go : g4 po o h) : m_X4_outweighs h po a1 = some r := by
  unfold t_X4_outweighs at hm
  unfold m_X4_outweighs
  obtain ⟨r1, e8, hm⟩ := q_b hm
  refine p_bd ((ca4 Go).trans (l_X4_weightOf _ _ _ _ e8 Go  )) ?_
  obtain ⟨r3, e8, hm⟩ := q_b hm
  refine p_bd ((ca4 Go).trans (l_X4_everyone _ _ _ e8 Go  )) ?_
  obtain ⟨r5, e8, hm⟩ := q_b hm
  refine p_bd ((ca4 Go).trans (l_X4_weightOf _ _ _ _ e8 Go  )) ?_
  refine r_if _ _ hm (fun _ hm => ?_) (fun _ hm => ?_)
  · exact hm
  · exact hm
def t_X4_fairestSet_36 (k10 : g_S → Int32 → Int32 → Int32 → Option Int32) (o : g_S) (x1 : Int32) (x2 : Int32) (x3 : Int32) : Option Int32 :=
  k10 o x1 x2 ((x3 + (1 : Int32)))
set_option maxRecDepth 20000 in
theorem l_X4_fairestSet_36 (po : Nat) {r : Int32} {k10 : g_S → Int32 → Int32 → Int32 → Option Int32} {gk10 : q_H → Nat → Int32 → Int32 → Int32 → Option Int32} (hk10 : ∀ (h : q_H) (o : g_S) (x1 : Int32) (x2 : Int32) (x3 : Int32), k10 o x1 x2 x3 = some r → g4 po o h → gk10 h po x1 x2 x3 = some r) : ∀ (h : q_H) (o : g_S) (x1 : Int32) (x2 : Int32) (x3 : Int32), t_X4_fairestSet_36 k10 o x1 x2 x3 = some r → g4 po o h → m_X4_fairestSet_36 gk10 h po x1 x2 x3 = some r := by
  intro h o x1 x2 x3 hm Go 
  unfold t_X4_fairestSet_36 at hm
  unfold m_X4_fairestSet_36
  exact hk10 _ _ _ _ _ hm Go 
def t_X4_fairestSet_10  : Nat → g_S → Int32 → Int32 → Int32 → Option Int32
  | 0, _, _, _, _ => none
  | n + 1, o, x1, x2, x3 =>
    (t_X4_everyone o).bind fun r3 =>
    if r3 < x3 then
      some x1
    else
      (t_X4_differenceBy o x3).bind fun r5 =>
      if x2 ≤ r5 then
        t_X4_fairestSet_36 (t_X4_fairestSet_10 n) o x1 x2 x3
      else
        t_X4_fairestSet_36 (t_X4_fairestSet_10 n) o x3 r5 x3
set_option maxRecDepth 20000 in
theorem l_X4_fairestSet_10 (po : Nat) {r : Int32} : ∀ (n : Nat) (h : q_H) (o : g_S) (x1 : Int32) (x2 : Int32) (x3 : Int32), t_X4_fairestSet_10 n o x1 x2 x3 = some r → g4 po o h → m_X4_fairestSet_10 n h po x1 x2 x3 = some r := by
  intro n
  induction n with
  | zero => intro h o x1 x2 x3 hm Go ; cases hm
  | succ n ih =>
    intro h o x1 x2 x3 hm Go 
    unfold t_X4_fairestSet_10 at hm
    unfold m_X4_fairestSet_10
    obtain ⟨r3, e8, hm⟩ := q_b hm
    refine p_bd ((ca4 Go).trans (l_X4_everyone _ _ _ e8 Go  )) ?_
    refine r_if _ _ hm (fun _ hm => ?_) (fun _ hm => ?_)
    · exact hm
    · obtain ⟨r5, e8, hm⟩ := q_b hm
      refine p_bd ((ca4 Go).trans (l_X4_differenceBy _ _ _ _ e8 Go  )) ?_
      refine r_if _ _ hm (fun _ hm => ?_) (fun _ hm => ?_)
      · exact l_X4_fairestSet_36 po ih _ _ _ _ _ hm Go 
      · exact l_X4_fairestSet_36 po ih _ _ _ _ _ hm Go 
def t_X4_fairestSet (o : g_S) : Option Int32 :=
  (t_X4_differenceBy o ((0 : Int32))).bind fun r1 =>
  t_X4_fairestSet_10 q_fu o ((0 : Int32)) r1 ((1 : Int32))
set_option maxRecDepth 20000 in
theorem l_X4_fairestSet (h : q_H) (po : Nat) (o : g_S) {r : Int32} (hm : t_X4_fairestSet o = some r) (Go : g4 po o h) : m_X4_fairestSet h po = some r := by
  unfold t_X4_fairestSet at hm
  unfold m_X4_fairestSet
  obtain ⟨r1, e8, hm⟩ := q_b hm
  refine p_bd ((ca4 Go).trans (l_X4_differenceBy _ _ _ _ e8 Go  )) ?_
  exact l_X4_fairestSet_10 po _ _ _ _ _ _ hm Go 
def t_X4_smallestSet_35 (k10 : g_S → Int32 → Int32 → Option Int32) (o : g_S) (x1 : Int32) (x2 : Int32) : Option Int32 :=
  k10 o x1 ((x2 + (-1 : Int32)))
set_option maxRecDepth 20000 in
theorem l_X4_smallestSet_35 (po : Nat) {r : Int32} {k10 : g_S → Int32 → Int32 → Option Int32} {gk10 : q_H → Nat → Int32 → Int32 → Option Int32} (hk10 : ∀ (h : q_H) (o : g_S) (x1 : Int32) (x2 : Int32), k10 o x1 x2 = some r → g4 po o h → gk10 h po x1 x2 = some r) : ∀ (h : q_H) (o : g_S) (x1 : Int32) (x2 : Int32), t_X4_smallestSet_35 k10 o x1 x2 = some r → g4 po o h → m_X4_smallestSet_35 gk10 h po x1 x2 = some r := by
  intro h o x1 x2 hm Go 
  unfold t_X4_smallestSet_35 at hm
  unfold m_X4_smallestSet_35
  exact hk10 _ _ _ _ hm Go 
def t_X4_smallestSet_10  : Nat → g_S → Int32 → Int32 → Option Int32
  | 0, _, _, _ => none
  | n + 1, o, x1, x2 =>
    if x2 < 0 then
      some x1
    else
      (m_J6_bitCount_0f7a4 x2).bind fun r5 =>
      (m_J6_bitCount_0f7a4 x1).bind fun r7 =>
      if r7 < r5 then
        t_X4_smallestSet_35 (t_X4_smallestSet_10 n) o x1 x2
      else
        (t_X4_outweighs o x2).bind fun r9 =>
        if r9 = 0 then
          t_X4_smallestSet_35 (t_X4_smallestSet_10 n) o x1 x2
        else
          t_X4_smallestSet_35 (t_X4_smallestSet_10 n) o x2 x2
set_option maxRecDepth 20000 in
theorem l_X4_smallestSet_10 (po : Nat) {r : Int32} : ∀ (n : Nat) (h : q_H) (o : g_S) (x1 : Int32) (x2 : Int32), t_X4_smallestSet_10 n o x1 x2 = some r → g4 po o h → m_X4_smallestSet_10 n h po x1 x2 = some r := by
  intro n
  induction n with
  | zero => intro h o x1 x2 hm Go ; cases hm
  | succ n ih =>
    intro h o x1 x2 hm Go 
    unfold t_X4_smallestSet_10 at hm
    unfold m_X4_smallestSet_10
    refine r_if _ _ hm (fun _ hm => ?_) (fun _ hm => ?_)
    · exact hm
    · refine r_bd hm (fun r5 hm => ?_)
      refine r_bd hm (fun r7 hm => ?_)
      refine r_if _ _ hm (fun _ hm => ?_) (fun _ hm => ?_)
      · exact l_X4_smallestSet_35 po ih _ _ _ _ hm Go 
      · obtain ⟨r9, e8, hm⟩ := q_b hm
        refine p_bd ((ca4 Go).trans (l_X4_outweighs _ _ _ _ e8 Go  )) ?_
        refine r_if _ _ hm (fun _ hm => ?_) (fun _ hm => ?_)
        · exact l_X4_smallestSet_35 po ih _ _ _ _ hm Go 
        · exact l_X4_smallestSet_35 po ih _ _ _ _ hm Go 
def t_X4_smallestSet (o : g_S) : Option Int32 :=
  (t_X4_everyone o).bind fun r1 =>
  (t_X4_everyone o).bind fun r3 =>
  t_X4_smallestSet_10 q_fu o r1 r3
set_option maxRecDepth 20000 in
theorem l_X4_smallestSet (h : q_H) (po : Nat) (o : g_S) {r : Int32} (hm : t_X4_smallestSet o = some r) (Go : g4 po o h) : m_X4_smallestSet h po = some r := by
  unfold t_X4_smallestSet at hm
  unfold m_X4_smallestSet
  obtain ⟨r1, e8, hm⟩ := q_b hm
  refine p_bd ((ca4 Go).trans (l_X4_everyone _ _ _ e8 Go  )) ?_
  obtain ⟨r3, e8, hm⟩ := q_b hm
  refine p_bd ((ca4 Go).trans (l_X4_everyone _ _ _ e8 Go  )) ?_
  exact l_X4_smallestSet_10 po _ _ _ _ _ hm Go 
def t_X4_neededSet_35 (k4 : g_S → Int32 → Int32 → Option Int32) (o : g_S) (x1 : Int32) (x2 : Int32) : Option Int32 :=
  k4 o x1 ((x2 + (1 : Int32)))
set_option maxRecDepth 20000 in
theorem l_X4_neededSet_35 (po : Nat) {r : Int32} {k4 : g_S → Int32 → Int32 → Option Int32} {gk4 : q_H → Nat → Int32 → Int32 → Option Int32} (hk4 : ∀ (h : q_H) (o : g_S) (x1 : Int32) (x2 : Int32), k4 o x1 x2 = some r → g4 po o h → gk4 h po x1 x2 = some r) : ∀ (h : q_H) (o : g_S) (x1 : Int32) (x2 : Int32), t_X4_neededSet_35 k4 o x1 x2 = some r → g4 po o h → m_X4_neededSet_35 gk4 h po x1 x2 = some r := by
  intro h o x1 x2 hm Go 
  unfold t_X4_neededSet_35 at hm
  unfold m_X4_neededSet_35
  exact hk4 _ _ _ _ hm Go 
def t_X4_neededSet_4  : Nat → g_S → Int32 → Int32 → Option Int32
  | 0, _, _, _ => none
  | n + 1, o, x1, x2 =>
    let v1 := g_I o 3
    if v1 ≤ x2 then
      some x1
    else
      (t_X4_everyone o).bind fun r2 =>
      (t_X4_outweighs o ((r2 &&& (((1 : Int32) <<< (x2 &&& 31)) ^^^ (-1 : Int32))))).bind fun r4 =>
      if r4 = 0 then
        t_X4_neededSet_35 (t_X4_neededSet_4 n) o ((x1 ||| ((1 : Int32) <<< (x2 &&& 31)))) x2
      else
        t_X4_neededSet_35 (t_X4_neededSet_4 n) o x1 x2
set_option maxRecDepth 20000 in
theorem l_X4_neededSet_4 (po : Nat) {r : Int32} : ∀ (n : Nat) (h : q_H) (o : g_S) (x1 : Int32) (x2 : Int32), t_X4_neededSet_4 n o x1 x2 = some r → g4 po o h → m_X4_neededSet_4 n h po x1 x2 = some r := by
  intro n
  induction n with
  | zero => intro h o x1 x2 hm Go ; cases hm
  | succ n ih =>
    intro h o x1 x2 hm Go 
    unfold t_X4_neededSet_4 at hm
    unfold m_X4_neededSet_4
    refine p_bd (gi4_3 Go) ?_
    refine r_if _ _ hm (fun _ hm => ?_) (fun _ hm => ?_)
    · exact hm
    · obtain ⟨r2, e8, hm⟩ := q_b hm
      refine p_bd ((ca4 Go).trans (l_X4_everyone _ _ _ e8 Go  )) ?_
      obtain ⟨r4, e8, hm⟩ := q_b hm
      refine p_bd ((ca4 Go).trans (l_X4_outweighs _ _ _ _ e8 Go  )) ?_
      refine r_if _ _ hm (fun _ hm => ?_) (fun _ hm => ?_)
      · exact l_X4_neededSet_35 po ih _ _ _ _ hm Go 
      · exact l_X4_neededSet_35 po ih _ _ _ _ hm Go 
def t_X4_neededSet (o : g_S) : Option Int32 :=
  t_X4_neededSet_4 q_fu o ((0 : Int32)) ((0 : Int32))
set_option maxRecDepth 20000 in
theorem l_X4_neededSet (h : q_H) (po : Nat) (o : g_S) {r : Int32} (hm : t_X4_neededSet o = some r) (Go : g4 po o h) : m_X4_neededSet h po = some r := by
  unfold t_X4_neededSet at hm
  unfold m_X4_neededSet
  exact l_X4_neededSet_4 po _ _ _ _ _ hm Go 
def t_X5_readNumber (i d : g_S) (a1 : Int32) (a2 : Int32) : Option (Int32 × g_S) :=
  let v2 := g_I d 8
  if v2 = 0 then
    (t_X3_next d).bind fun d1 =>
    (t_X3_isNumber d1 a1 a2).bind fun (r7, d2) =>
    if r7 = 0 then
      some ((0 : Int32), d2)
    else
      let v11 := g_I d2 7
      some (v11, d2)
  else
    some ((0 : Int32), d)
set_option maxRecDepth 20000 in
theorem l_X5_readNumber (h : q_H) (pi pd : Nat) (i d : g_S) (a1 : Int32) (a2 : Int32) {r : Int32} {d' : g_S} (hm : t_X5_readNumber i d a1 a2 = some (r, d')) (Gi : g5 pi i h) (Gd : g3 pd d h) (Ed : g_P i 0 = some pd) (Did : ∀ a, f5 pi a → f3 pd a → False) : q_E (m_X5_readNumber h pi a1 a2) (fun x => x.1 = r ∧ g3 pd d' (x.2) ∧ g_P d' = g_P d ∧ ∀ a, ¬ (f3 pd a) → (x.2) a = h a) := by
  unfold t_X5_readNumber at hm
  unfold m_X5_readNumber
  have FR : ∀ a, ¬ (f3 pd a) → h a = h a := fun _ _ => rfl
  have Qi : g_P i = g_P i := rfl
  have Qd : g_P d = g_P d := rfl
  refine e_bd (gp5_0 Gi ((congrFun Qi 0).trans Ed)) ?_
  refine e_bd (gi3_8 Gd) ?_
  refine e_if hm (fun _ hm => ?_) (fun _ hm => ?_)
  · refine e_bd (gp5_0 Gi ((congrFun Qi 0).trans Ed)) ?_
    obtain ⟨d1, e8, hm⟩ := q_b hm
    have Gc := Gd
    obtain ⟨h5, e9, Gd, Rd, F⟩ := l_X3_next _ _ _ e8 Gd  
    have Qd := Rd.trans Qd
    refine e_bd ((ca3 Gc).trans e9) ?_
    have Gi := fr5 Gi (fun a ha => F a (fun hb => Did _ ha hb))
    have FR := fun a na => (F a (fun hb => na (hb))).trans (FR a na)
    refine e_bd (gp5_0 Gi ((congrFun Qi 0).trans Ed)) ?_
    obtain ⟨⟨r7, d2⟩, e8, hm⟩ := q_b hm
    have Gc := Gd
    obtain ⟨⟨r9, h8⟩, e9, e7, Gd, Rd, F⟩ := l_X3_isNumber _ _ _ _ _ e8 Gd  
    dsimp only at e7 Gd F
    subst e7
    have Qd := Rd.trans Qd
    refine e_bd ((ca3 Gc).trans e9) ?_
    have Gi := fr5 Gi (fun a ha => F a (fun hb => Did _ ha hb))
    have FR := fun a na => (F a (fun hb => na (hb))).trans (FR a na)
    refine e_if hm (fun _ hm => ?_) (fun _ hm => ?_)
    · have hq0 := Option.some.inj hm
      clear hm
      obtain ⟨rfl, rfl⟩ := Prod.mk.inj hq0
      exact ⟨_, rfl, rfl, Gd, Qd, FR⟩
    · refine e_bd (gp5_0 Gi ((congrFun Qi 0).trans Ed)) ?_
      refine e_bd (gi3_7 Gd) ?_
      have hq0 := Option.some.inj hm
      clear hm
      obtain ⟨rfl, rfl⟩ := Prod.mk.inj hq0
      exact ⟨_, rfl, rfl, Gd, Qd, FR⟩
  · have hq0 := Option.some.inj hm
    clear hm
    obtain ⟨rfl, rfl⟩ := Prod.mk.inj hq0
    exact ⟨_, rfl, rfl, Gd, Qd, FR⟩
def t_X5_readRope (i d o : g_S) : Option (Int32 × g_S × g_S) :=
  (t_X5_readNumber i d ((1 : Int32)) ((60 : Int32))).bind fun (r1, d1) =>
  let o2 := g_si o 0 (r1)
  (t_X5_readNumber i d1 ((0 : Int32)) ((9 : Int32))).bind fun (r5, d3) =>
  let o4 := g_si o2 1 (r5)
  (t_X3_next d3).bind fun d5 =>
  let v13 := g_I d5 8
  if v13 = 0 then
    some ((1 : Int32), d5, o4)
  else
    some ((0 : Int32), d5, o4)
set_option maxRecDepth 20000 in
theorem l_X5_readRope (h : q_H) (pi pd po : Nat) (i d o : g_S) {r : Int32} {d' o' : g_S} (hm : t_X5_readRope i d o = some (r, d', o')) (Gi : g5 pi i h) (Gd : g3 pd d h) (Go : g4 po o h) (Ed : g_P i 0 = some pd) (Did : ∀ a, f5 pi a → f3 pd a → False) (Dio : ∀ a, f5 pi a → f4 po a → False) (Ddo : ∀ a, f3 pd a → f4 po a → False) : q_E (m_X5_readRope h pi po) (fun x => x.1 = r ∧ g3 pd d' (x.2) ∧ g4 po o' (x.2) ∧ g_P d' = g_P d ∧ ∀ a, ¬ (f3 pd a ∨ f4 po a) → (x.2) a = h a) := by
  unfold t_X5_readRope at hm
  unfold m_X5_readRope
  have FR : ∀ a, ¬ (f3 pd a ∨ f4 po a) → h a = h a := fun _ _ => rfl
  have Qi : g_P i = g_P i := rfl
  have Qd : g_P d = g_P d := rfl
  obtain ⟨⟨r1, d1⟩, e8, hm⟩ := q_b hm
  have Gc := Gi
  obtain ⟨⟨r9, h2⟩, e9, e7, Gd, Rd, F⟩ := l_X5_readNumber _ _ _ _ _ _ _ e8 Gi Gd ((congrFun Qi 0).trans Ed) Did
  dsimp only at e7 Gd F
  subst e7
  have Qd := Rd.trans Qd
  refine e_bd ((ca5 Gc).trans e9) ?_
  have Gi := fr5 Gi (fun a ha => F a (fun hb => Did _ ha hb))
  have Go := fr4 Go (fun a ha => F a (fun hb => Ddo _ hb ha))
  have FR := fun a na => (F a (fun hb => na (Or.inl hb))).trans (FR a na)
  refine e_pi (pi4_0 _ Go) (fun h4 Go F => ?_)
  have Gi := fr5 Gi (fun a ha => F a (fun hb => Dio _ ha hb))
  have Gd := fr3 Gd (fun a ha => F a (fun hb => Ddo _ ha hb))
  have FR := fun a na => (F a (fun hb => na (Or.inr (hb)))).trans (FR a na)
  obtain ⟨⟨r5, d3⟩, e8, hm⟩ := q_b hm
  have Gc := Gi
  obtain ⟨⟨r9, h6⟩, e9, e7, Gd, Rd, F⟩ := l_X5_readNumber _ _ _ _ _ _ _ e8 Gi Gd ((congrFun Qi 0).trans Ed) Did
  dsimp only at e7 Gd F
  subst e7
  have Qd := Rd.trans Qd
  refine e_bd ((ca5 Gc).trans e9) ?_
  have Gi := fr5 Gi (fun a ha => F a (fun hb => Did _ ha hb))
  have Go := fr4 Go (fun a ha => F a (fun hb => Ddo _ hb ha))
  have FR := fun a na => (F a (fun hb => na (Or.inl hb))).trans (FR a na)
  refine e_pi (pi4_1 _ Go) (fun h8 Go F => ?_)
  have Gi := fr5 Gi (fun a ha => F a (fun hb => Dio _ ha hb))
  have Gd := fr3 Gd (fun a ha => F a (fun hb => Ddo _ ha hb))
  have FR := fun a na => (F a (fun hb => na (Or.inr (hb)))).trans (FR a na)
  refine e_bd (gp5_0 Gi ((congrFun Qi 0).trans Ed)) ?_
  obtain ⟨d5, e8, hm⟩ := q_b hm
  have Gc := Gd
  obtain ⟨h11, e9, Gd, Rd, F⟩ := l_X3_next _ _ _ e8 Gd  
  have Qd := Rd.trans Qd
  refine e_bd ((ca3 Gc).trans e9) ?_
  have Gi := fr5 Gi (fun a ha => F a (fun hb => Did _ ha hb))
  have Go := fr4 Go (fun a ha => F a (fun hb => Ddo _ hb ha))
  have FR := fun a na => (F a (fun hb => na (Or.inl hb))).trans (FR a na)
  refine e_bd (gp5_0 Gi ((congrFun Qi 0).trans Ed)) ?_
  refine e_bd (gi3_8 Gd) ?_
  refine e_if hm (fun _ hm => ?_) (fun _ hm => ?_)
  · have hq0 := Option.some.inj hm
    clear hm
    obtain ⟨rfl, hq1⟩ := Prod.mk.inj hq0
    obtain ⟨rfl, rfl⟩ := Prod.mk.inj hq1
    exact ⟨_, rfl, rfl, Gd, Go, Qd, FR⟩
  · have hq0 := Option.some.inj hm
    clear hm
    obtain ⟨rfl, hq1⟩ := Prod.mk.inj hq0
    obtain ⟨rfl, rfl⟩ := Prod.mk.inj hq1
    exact ⟨_, rfl, rfl, Gd, Go, Qd, FR⟩
def t_X5_readPuller (i d o : g_S) : Option (Int32 × g_S × g_S) :=
  let v1 := g_I o 3
  (t_X5_readNumber i d ((0 : Int32)) ((1 : Int32))).bind fun (r3, d1) =>
  (u_si 8 o 4 v1 r3).bind fun o2 =>
  (t_X5_readNumber i d1 ((1 : Int32)) ((40 : Int32))).bind fun (r8, d3) =>
  (u_si 8 o2 5 v1 r8).bind fun o4 =>
  (t_X5_readNumber i d3 ((0 : Int32)) ((60 : Int32))).bind fun (r13, d5) =>
  (u_si 8 o4 6 v1 r13).bind fun o6 =>
  (t_X5_readNumber i d5 ((0 : Int32)) ((9 : Int32))).bind fun (r18, d7) =>
  (u_si 8 o6 7 v1 r18).bind fun o8 =>
  let v22 := g_I o8 3
  let o9 := g_si o8 3 (v22 + (1 : Int32))
  (t_X3_next d7).bind fun d10 =>
  let v28 := g_I d10 8
  if v28 = 0 then
    some ((1 : Int32), d10, o9)
  else
    some ((0 : Int32), d10, o9)
set_option maxRecDepth 20000 in
theorem l_X5_readPuller (h : q_H) (pi pd po : Nat) (i d o : g_S) {r : Int32} {d' o' : g_S} (hm : t_X5_readPuller i d o = some (r, d', o')) (Gi : g5 pi i h) (Gd : g3 pd d h) (Go : g4 po o h) (Ed : g_P i 0 = some pd) (Did : ∀ a, f5 pi a → f3 pd a → False) (Dio : ∀ a, f5 pi a → f4 po a → False) (Ddo : ∀ a, f3 pd a → f4 po a → False) : q_E (m_X5_readPuller h pi po) (fun x => x.1 = r ∧ g3 pd d' (x.2) ∧ g4 po o' (x.2) ∧ g_P d' = g_P d ∧ ∀ a, ¬ (f3 pd a ∨ f4 po a) → (x.2) a = h a) := by
  unfold t_X5_readPuller at hm
  unfold m_X5_readPuller
  have FR : ∀ a, ¬ (f3 pd a ∨ f4 po a) → h a = h a := fun _ _ => rfl
  have Qi : g_P i = g_P i := rfl
  have Qd : g_P d = g_P d := rfl
  refine e_bd (gi4_3 Go) ?_
  refine e_bd (gn4_4 Go) ?_
  obtain ⟨⟨r3, d1⟩, e8, hm⟩ := q_b hm
  have Gc := Gi
  obtain ⟨⟨r9, h4⟩, e9, e7, Gd, Rd, F⟩ := l_X5_readNumber _ _ _ _ _ _ _ e8 Gi Gd ((congrFun Qi 0).trans Ed) Did
  dsimp only at e7 Gd F
  subst e7
  have Qd := Rd.trans Qd
  refine e_bd ((ca5 Gc).trans e9) ?_
  have Gi := fr5 Gi (fun a ha => F a (fun hb => Did _ ha hb))
  have Go := fr4 Go (fun a ha => F a (fun hb => Ddo _ hb ha))
  have FR := fun a na => (F a (fun hb => na (Or.inl hb))).trans (FR a na)
  obtain ⟨o2, e8, hm⟩ := q_b hm
  obtain ⟨h6, e9, Go, F⟩ := as4_4 Go e8
  refine e_bd e9 ?_
  have Gi := fr5 Gi (fun a ha => F a (fun hb => Dio _ ha hb))
  have Gd := fr3 Gd (fun a ha => F a (fun hb => Ddo _ ha hb))
  have FR := fun a na => (F a (fun hb => na (Or.inr (hb)))).trans (FR a na)
  refine e_bd (gn4_5 Go) ?_
  obtain ⟨⟨r8, d3⟩, e8, hm⟩ := q_b hm
  have Gc := Gi
  obtain ⟨⟨r9, h9⟩, e9, e7, Gd, Rd, F⟩ := l_X5_readNumber _ _ _ _ _ _ _ e8 Gi Gd ((congrFun Qi 0).trans Ed) Did
  dsimp only at e7 Gd F
  subst e7
  have Qd := Rd.trans Qd
  refine e_bd ((ca5 Gc).trans e9) ?_
  have Gi := fr5 Gi (fun a ha => F a (fun hb => Did _ ha hb))
  have Go := fr4 Go (fun a ha => F a (fun hb => Ddo _ hb ha))
  have FR := fun a na => (F a (fun hb => na (Or.inl hb))).trans (FR a na)
  obtain ⟨o4, e8, hm⟩ := q_b hm
  obtain ⟨h11, e9, Go, F⟩ := as4_5 Go e8
  refine e_bd e9 ?_
  have Gi := fr5 Gi (fun a ha => F a (fun hb => Dio _ ha hb))
  have Gd := fr3 Gd (fun a ha => F a (fun hb => Ddo _ ha hb))
  have FR := fun a na => (F a (fun hb => na (Or.inr (hb)))).trans (FR a na)
  refine e_bd (gn4_6 Go) ?_
  obtain ⟨⟨r13, d5⟩, e8, hm⟩ := q_b hm
  have Gc := Gi
  obtain ⟨⟨r9, h14⟩, e9, e7, Gd, Rd, F⟩ := l_X5_readNumber _ _ _ _ _ _ _ e8 Gi Gd ((congrFun Qi 0).trans Ed) Did
  dsimp only at e7 Gd F
  subst e7
  have Qd := Rd.trans Qd
  refine e_bd ((ca5 Gc).trans e9) ?_
  have Gi := fr5 Gi (fun a ha => F a (fun hb => Did _ ha hb))
  have Go := fr4 Go (fun a ha => F a (fun hb => Ddo _ hb ha))
  have FR := fun a na => (F a (fun hb => na (Or.inl hb))).trans (FR a na)
  obtain ⟨o6, e8, hm⟩ := q_b hm
  obtain ⟨h16, e9, Go, F⟩ := as4_6 Go e8
  refine e_bd e9 ?_
  have Gi := fr5 Gi (fun a ha => F a (fun hb => Dio _ ha hb))
  have Gd := fr3 Gd (fun a ha => F a (fun hb => Ddo _ ha hb))
  have FR := fun a na => (F a (fun hb => na (Or.inr (hb)))).trans (FR a na)
  refine e_bd (gn4_7 Go) ?_
  obtain ⟨⟨r18, d7⟩, e8, hm⟩ := q_b hm
  have Gc := Gi
  obtain ⟨⟨r9, h19⟩, e9, e7, Gd, Rd, F⟩ := l_X5_readNumber _ _ _ _ _ _ _ e8 Gi Gd ((congrFun Qi 0).trans Ed) Did
  dsimp only at e7 Gd F
  subst e7
  have Qd := Rd.trans Qd
  refine e_bd ((ca5 Gc).trans e9) ?_
  have Gi := fr5 Gi (fun a ha => F a (fun hb => Did _ ha hb))
  have Go := fr4 Go (fun a ha => F a (fun hb => Ddo _ hb ha))
  have FR := fun a na => (F a (fun hb => na (Or.inl hb))).trans (FR a na)
  obtain ⟨o8, e8, hm⟩ := q_b hm
  obtain ⟨h21, e9, Go, F⟩ := as4_7 Go e8
  refine e_bd e9 ?_
  have Gi := fr5 Gi (fun a ha => F a (fun hb => Dio _ ha hb))
  have Gd := fr3 Gd (fun a ha => F a (fun hb => Ddo _ ha hb))
  have FR := fun a na => (F a (fun hb => na (Or.inr (hb)))).trans (FR a na)
  refine e_bd (gi4_3 Go) ?_
  refine e_pi (pi4_3 _ Go) (fun h23 Go F => ?_)
  have Gi := fr5 Gi (fun a ha => F a (fun hb => Dio _ ha hb))
  have Gd := fr3 Gd (fun a ha => F a (fun hb => Ddo _ ha hb))
  have FR := fun a na => (F a (fun hb => na (Or.inr (hb)))).trans (FR a na)
  refine e_bd (gp5_0 Gi ((congrFun Qi 0).trans Ed)) ?_
  obtain ⟨d10, e8, hm⟩ := q_b hm
  have Gc := Gd
  obtain ⟨h26, e9, Gd, Rd, F⟩ := l_X3_next _ _ _ e8 Gd  
  have Qd := Rd.trans Qd
  refine e_bd ((ca3 Gc).trans e9) ?_
  have Gi := fr5 Gi (fun a ha => F a (fun hb => Did _ ha hb))
  have Go := fr4 Go (fun a ha => F a (fun hb => Ddo _ hb ha))
  have FR := fun a na => (F a (fun hb => na (Or.inl hb))).trans (FR a na)
  refine e_bd (gp5_0 Gi ((congrFun Qi 0).trans Ed)) ?_
  refine e_bd (gi3_8 Gd) ?_
  refine e_if hm (fun _ hm => ?_) (fun _ hm => ?_)
  · have hq0 := Option.some.inj hm
    clear hm
    obtain ⟨rfl, hq1⟩ := Prod.mk.inj hq0
    obtain ⟨rfl, rfl⟩ := Prod.mk.inj hq1
    exact ⟨_, rfl, rfl, Gd, Go, Qd, FR⟩
  · have hq0 := Option.some.inj hm
    clear hm
    obtain ⟨rfl, hq1⟩ := Prod.mk.inj hq0
    obtain ⟨rfl, rfl⟩ := Prod.mk.inj hq1
    exact ⟨_, rfl, rfl, Gd, Go, Qd, FR⟩
def t_X5_readRibbon (i d o : g_S) : Option (Int32 × g_S × g_S × g_S) :=
  let i1 := g_si i 1 (1 : Int32)
  let v2 := g_I o 0
  (t_X5_readNumber i1 d ((0 : Int32)) ((((2 : Int32) * v2) - (2 : Int32)))).bind fun (r3, d2) =>
  let v6 := g_I o 0
  let o3 := g_si o 2 (r3 - (v6 - (1 : Int32)))
  (t_X3_next d2).bind fun d4 =>
  let v12 := g_I d4 8
  if v12 = 0 then
    some ((1 : Int32), i1, d4, o3)
  else
    some ((0 : Int32), i1, d4, o3)
set_option maxRecDepth 20000 in
theorem l_X5_readRibbon (h : q_H) (pi pd po : Nat) (i d o : g_S) {r : Int32} {i' d' o' : g_S} (hm : t_X5_readRibbon i d o = some (r, i', d', o')) (Gi : g5 pi i h) (Gd : g3 pd d h) (Go : g4 po o h) (Ed : g_P i 0 = some pd) (Did : ∀ a, f5 pi a → f3 pd a → False) (Dio : ∀ a, f5 pi a → f4 po a → False) (Ddo : ∀ a, f3 pd a → f4 po a → False) : q_E (m_X5_readRibbon h pi po) (fun x => x.1 = r ∧ g5 pi i' (x.2) ∧ g3 pd d' (x.2) ∧ g4 po o' (x.2) ∧ g_P i' = g_P i ∧ g_P d' = g_P d ∧ ∀ a, ¬ (f5 pi a ∨ f3 pd a ∨ f4 po a) → (x.2) a = h a) := by
  unfold t_X5_readRibbon at hm
  unfold m_X5_readRibbon
  have FR : ∀ a, ¬ (f5 pi a ∨ f3 pd a ∨ f4 po a) → h a = h a := fun _ _ => rfl
  have Qi : g_P i = g_P i := rfl
  have Qd : g_P d = g_P d := rfl
  refine e_pi (pi5_1 _ Gi) (fun h1 Gi F => ?_)
  have Gd := fr3 Gd (fun a ha => F a (fun hb => Did _ hb ha))
  have Go := fr4 Go (fun a ha => F a (fun hb => Dio _ hb ha))
  have FR := fun a na => (F a (fun hb => na (Or.inl hb))).trans (FR a na)
  refine e_bd (gi4_0 Go) ?_
  obtain ⟨⟨r3, d2⟩, e8, hm⟩ := q_b hm
  have Gc := Gi
  obtain ⟨⟨r9, h4⟩, e9, e7, Gd, Rd, F⟩ := l_X5_readNumber _ _ _ _ _ _ _ e8 Gi Gd ((congrFun Qi 0).trans Ed) Did
  dsimp only at e7 Gd F
  subst e7
  have Qd := Rd.trans Qd
  refine e_bd ((ca5 Gc).trans e9) ?_
  have Gi := fr5 Gi (fun a ha => F a (fun hb => Did _ ha hb))
  have Go := fr4 Go (fun a ha => F a (fun hb => Ddo _ hb ha))
  have FR := fun a na => (F a (fun hb => na (Or.inr (Or.inl hb)))).trans (FR a na)
  refine e_bd (gi4_0 Go) ?_
  refine e_pi (pi4_2 _ Go) (fun h7 Go F => ?_)
  have Gi := fr5 Gi (fun a ha => F a (fun hb => Dio _ ha hb))
  have Gd := fr3 Gd (fun a ha => F a (fun hb => Ddo _ ha hb))
  have FR := fun a na => (F a (fun hb => na (Or.inr (Or.inr (hb))))).trans (FR a na)
  refine e_bd (gp5_0 Gi ((congrFun Qi 0).trans Ed)) ?_
  obtain ⟨d4, e8, hm⟩ := q_b hm
  have Gc := Gd
  obtain ⟨h10, e9, Gd, Rd, F⟩ := l_X3_next _ _ _ e8 Gd  
  have Qd := Rd.trans Qd
  refine e_bd ((ca3 Gc).trans e9) ?_
  have Gi := fr5 Gi (fun a ha => F a (fun hb => Did _ ha hb))
  have Go := fr4 Go (fun a ha => F a (fun hb => Ddo _ hb ha))
  have FR := fun a na => (F a (fun hb => na (Or.inr (Or.inl hb)))).trans (FR a na)
  refine e_bd (gp5_0 Gi ((congrFun Qi 0).trans Ed)) ?_
  refine e_bd (gi3_8 Gd) ?_
  refine e_if hm (fun _ hm => ?_) (fun _ hm => ?_)
  · have hq0 := Option.some.inj hm
    clear hm
    obtain ⟨rfl, hq1⟩ := Prod.mk.inj hq0
    obtain ⟨rfl, hq2⟩ := Prod.mk.inj hq1
    obtain ⟨rfl, rfl⟩ := Prod.mk.inj hq2
    exact ⟨_, rfl, rfl, Gi, Gd, Go, Qi, Qd, FR⟩
  · have hq0 := Option.some.inj hm
    clear hm
    obtain ⟨rfl, hq1⟩ := Prod.mk.inj hq0
    obtain ⟨rfl, hq2⟩ := Prod.mk.inj hq1
    obtain ⟨rfl, rfl⟩ := Prod.mk.inj hq2
    exact ⟨_, rfl, rfl, Gi, Gd, Go, Qi, Qd, FR⟩
def t_X5_readClause_87 (i d o : g_S) : Option (Int32 × g_S × g_S × g_S) :=
  (t_X3_refuse d ((4 : Int32))).bind fun (r31, d11) =>
  some (r31, i, d11, o)
set_option maxRecDepth 20000 in
theorem l_X5_readClause_87 (pi pd po : Nat) (Did : ∀ a, f5 pi a → f3 pd a → False) (Dio : ∀ a, f5 pi a → f4 po a → False) (Ddo : ∀ a, f3 pd a → f4 po a → False) {r : Int32} {i' d' o' : g_S} : ∀ (h : q_H) (i d o : g_S), t_X5_readClause_87 i d o = some (r, i', d', o') → g5 pi i h → g3 pd d h → g4 po o h → g_P i 0 = some pd → q_E (m_X5_readClause_87 h pi) (fun x => x.1 = r ∧ g5 pi i' (x.2) ∧ g3 pd d' (x.2) ∧ g4 po o' (x.2) ∧ g_P i' = g_P i ∧ g_P d' = g_P d ∧ ∀ a, ¬ (f5 pi a ∨ f3 pd a ∨ f4 po a) → (x.2) a = h a) := by
  intro h i d o  hm Gi Gd Go Ed
  unfold t_X5_readClause_87 at hm
  unfold m_X5_readClause_87
  have FR : ∀ a, ¬ (f5 pi a ∨ f3 pd a ∨ f4 po a) → h a = h a := fun _ _ => rfl
  have Qi : g_P i = g_P i := rfl
  have Qd : g_P d = g_P d := rfl
  refine e_bd (gp5_0 Gi ((congrFun Qi 0).trans Ed)) ?_
  obtain ⟨⟨r31, d11⟩, e8, hm⟩ := q_b hm
  have Gc := Gd
  obtain ⟨⟨r9, h32⟩, e9, e7, Gd, Rd, F⟩ := l_X3_refuse _ _ _ _ e8 Gd  
  dsimp only at e7 Gd F
  subst e7
  have Qd := Rd.trans Qd
  refine e_bd ((ca3 Gc).trans e9) ?_
  have Gi := fr5 Gi (fun a ha => F a (fun hb => Did _ ha hb))
  have Go := fr4 Go (fun a ha => F a (fun hb => Ddo _ hb ha))
  have FR := fun a na => (F a (fun hb => na (Or.inr (Or.inl hb)))).trans (FR a na)
  have hq0 := Option.some.inj hm
  clear hm
  obtain ⟨rfl, hq1⟩ := Prod.mk.inj hq0
  obtain ⟨rfl, hq2⟩ := Prod.mk.inj hq1
  obtain ⟨rfl, rfl⟩ := Prod.mk.inj hq2
  exact ⟨_, rfl, rfl, Gi, Gd, Go, Qi, Qd, FR⟩
def t_X5_readClause_75 (i d o : g_S) (x1 : Int32) (s0 : Int32) : Option (Int32 × g_S × g_S × g_S) :=
  if s0 = 0 then
    (m_X5_fits x1).bind fun r25 =>
    if r25 = 0 then
      t_X5_readClause_87 i d o
    else
      (t_X5_readPuller i d o).bind fun (r27, d9, o10) =>
      some (r27, i, d9, o10)
  else
    t_X5_readClause_87 i d o
set_option maxRecDepth 20000 in
theorem l_X5_readClause_75 (pi pd po : Nat) (Did : ∀ a, f5 pi a → f3 pd a → False) (Dio : ∀ a, f5 pi a → f4 po a → False) (Ddo : ∀ a, f3 pd a → f4 po a → False) {r : Int32} {i' d' o' : g_S} : ∀ (h : q_H) (i d o : g_S) (x1 : Int32) (s0 : Int32), t_X5_readClause_75 i d o x1 s0 = some (r, i', d', o') → g5 pi i h → g3 pd d h → g4 po o h → g_P i 0 = some pd → q_E (m_X5_readClause_75 h pi x1 po s0) (fun x => x.1 = r ∧ g5 pi i' (x.2) ∧ g3 pd d' (x.2) ∧ g4 po o' (x.2) ∧ g_P i' = g_P i ∧ g_P d' = g_P d ∧ ∀ a, ¬ (f5 pi a ∨ f3 pd a ∨ f4 po a) → (x.2) a = h a) := by
  intro h i d o x1 s0 hm Gi Gd Go Ed
  unfold t_X5_readClause_75 at hm
  unfold m_X5_readClause_75
  have FR : ∀ a, ¬ (f5 pi a ∨ f3 pd a ∨ f4 po a) → h a = h a := fun _ _ => rfl
  have Qi : g_P i = g_P i := rfl
  have Qd : g_P d = g_P d := rfl
  refine e_if hm (fun _ hm => ?_) (fun _ hm => ?_)
  · refine e_oo hm (fun r25 hm => ?_)
    refine e_if hm (fun _ hm => ?_) (fun _ hm => ?_)
    · obtain ⟨x9, e9, e7, Gi, Gd, Go, Ri, Rd, F⟩ := l_X5_readClause_87 pi pd po Did Dio Ddo _ _ _ _ hm Gi Gd Go ((congrFun Qi 0).trans Ed)
      exact ⟨x9, e9, e7, Gi, Gd, Go, Ri.trans Qi, Rd.trans Qd, fun a na => (F a na).trans (FR a na)⟩
    · obtain ⟨⟨r27, d9, o10⟩, e8, hm⟩ := q_b hm
      have Gc := Gi
      obtain ⟨⟨r9, h28⟩, e9, e7, Gd, Go, Rd, F⟩ := l_X5_readPuller _ _ _ _ _ _ _ e8 Gi Gd Go ((congrFun Qi 0).trans Ed) Did Dio Ddo
      dsimp only at e7 Gd Go F
      subst e7
      have Qd := Rd.trans Qd
      refine e_bd ((ca5 Gc).trans e9) ?_
      have Gi := fr5 Gi (fun a ha => F a (fun hq => hq.elim (fun hb => Did _ ha hb) (fun hb => Dio _ ha hb)))
      have FR := fun a na => (F a (fun hq => hq.elim (fun hb => na (Or.inr (Or.inl hb))) (fun hb => na (Or.inr (Or.inr (hb)))))).trans (FR a na)
      have hq0 := Option.some.inj hm
      clear hm
      obtain ⟨rfl, hq1⟩ := Prod.mk.inj hq0
      obtain ⟨rfl, hq2⟩ := Prod.mk.inj hq1
      obtain ⟨rfl, rfl⟩ := Prod.mk.inj hq2
      exact ⟨_, rfl, rfl, Gi, Gd, Go, Qi, Qd, FR⟩
  · obtain ⟨x9, e9, e7, Gi, Gd, Go, Ri, Rd, F⟩ := l_X5_readClause_87 pi pd po Did Dio Ddo _ _ _ _ hm Gi Gd Go ((congrFun Qi 0).trans Ed)
    exact ⟨x9, e9, e7, Gi, Gd, Go, Ri.trans Qi, Rd.trans Qd, fun a na => (F a na).trans (FR a na)⟩
def t_X5_readClause_118 (i d o : g_S) : Option (Int32 × g_S × g_S × g_S) :=
  (t_X3_refuse d ((4 : Int32))).bind fun (r22, d8) =>
  some (r22, i, d8, o)
set_option maxRecDepth 20000 in
theorem l_X5_readClause_118 (pi pd po : Nat) (Did : ∀ a, f5 pi a → f3 pd a → False) (Dio : ∀ a, f5 pi a → f4 po a → False) (Ddo : ∀ a, f3 pd a → f4 po a → False) {r : Int32} {i' d' o' : g_S} : ∀ (h : q_H) (i d o : g_S), t_X5_readClause_118 i d o = some (r, i', d', o') → g5 pi i h → g3 pd d h → g4 po o h → g_P i 0 = some pd → q_E (m_X5_readClause_118 h pi) (fun x => x.1 = r ∧ g5 pi i' (x.2) ∧ g3 pd d' (x.2) ∧ g4 po o' (x.2) ∧ g_P i' = g_P i ∧ g_P d' = g_P d ∧ ∀ a, ¬ (f5 pi a ∨ f3 pd a ∨ f4 po a) → (x.2) a = h a) := by
  intro h i d o  hm Gi Gd Go Ed
  unfold t_X5_readClause_118 at hm
  unfold m_X5_readClause_118
  have FR : ∀ a, ¬ (f5 pi a ∨ f3 pd a ∨ f4 po a) → h a = h a := fun _ _ => rfl
  have Qi : g_P i = g_P i := rfl
  have Qd : g_P d = g_P d := rfl
  refine e_bd (gp5_0 Gi ((congrFun Qi 0).trans Ed)) ?_
  obtain ⟨⟨r22, d8⟩, e8, hm⟩ := q_b hm
  have Gc := Gd
  obtain ⟨⟨r9, h23⟩, e9, e7, Gd, Rd, F⟩ := l_X3_refuse _ _ _ _ e8 Gd  
  dsimp only at e7 Gd F
  subst e7
  have Qd := Rd.trans Qd
  refine e_bd ((ca3 Gc).trans e9) ?_
  have Gi := fr5 Gi (fun a ha => F a (fun hb => Did _ ha hb))
  have Go := fr4 Go (fun a ha => F a (fun hb => Ddo _ hb ha))
  have FR := fun a na => (F a (fun hb => na (Or.inr (Or.inl hb)))).trans (FR a na)
  have hq0 := Option.some.inj hm
  clear hm
  obtain ⟨rfl, hq1⟩ := Prod.mk.inj hq0
  obtain ⟨rfl, hq2⟩ := Prod.mk.inj hq1
  obtain ⟨rfl, rfl⟩ := Prod.mk.inj hq2
  exact ⟨_, rfl, rfl, Gi, Gd, Go, Qi, Qd, FR⟩
def t_X5_readClause (i d o : g_S) (a1 : Int32) : Option (Int32 × g_S × g_S × g_S) :=
  let v2 := g_I d 6
  if v2 = 700 then
    let v3 := g_I o 3
    if v3 < (8 : Int32) then
      t_X5_readClause_75 i d o a1 ((0 : Int32))
    else
      t_X5_readClause_75 i d o a1 ((1 : Int32))
  else
    if v2 = 707 then
      let v4 := g_I i 1
      if v4 = 0 then
        (m_X5_fits a1).bind fun r5 =>
        if r5 = 0 then
          t_X5_readClause_118 i d o
        else
          (t_X5_readRibbon i d o).bind fun (r7, i1, d2, o3) =>
          some (r7, i1, d2, o3)
      else
        t_X5_readClause_118 i d o
    else
      if v2 = 711 then
        if a1 = 0 then
          (t_X5_readRope i d o).bind fun (r10, d4, o5) =>
          some (r10, i, d4, o5)
        else
          (t_X3_refuse d ((4 : Int32))).bind fun (r14, d6) =>
          some (r14, i, d6, o)
      else
        (t_X3_refuse d ((0 : Int32))).bind fun (r18, d7) =>
        some (r18, i, d7, o)
set_option maxRecDepth 20000 in
theorem l_X5_readClause (h : q_H) (pi pd po : Nat) (i d o : g_S) (a1 : Int32) {r : Int32} {i' d' o' : g_S} (hm : t_X5_readClause i d o a1 = some (r, i', d', o')) (Gi : g5 pi i h) (Gd : g3 pd d h) (Go : g4 po o h) (Ed : g_P i 0 = some pd) (Did : ∀ a, f5 pi a → f3 pd a → False) (Dio : ∀ a, f5 pi a → f4 po a → False) (Ddo : ∀ a, f3 pd a → f4 po a → False) : q_E (m_X5_readClause h pi a1 po) (fun x => x.1 = r ∧ g5 pi i' (x.2) ∧ g3 pd d' (x.2) ∧ g4 po o' (x.2) ∧ g_P i' = g_P i ∧ g_P d' = g_P d ∧ ∀ a, ¬ (f5 pi a ∨ f3 pd a ∨ f4 po a) → (x.2) a = h a) := by
  unfold t_X5_readClause at hm
  unfold m_X5_readClause
  have FR : ∀ a, ¬ (f5 pi a ∨ f3 pd a ∨ f4 po a) → h a = h a := fun _ _ => rfl
  have Qi : g_P i = g_P i := rfl
  have Qd : g_P d = g_P d := rfl
  refine e_bd (gp5_0 Gi ((congrFun Qi 0).trans Ed)) ?_
  refine e_bd (gi3_6 Gd) ?_
  refine e_if hm (fun _ hm => ?_) (fun _ hm => ?_)
  · refine e_bd (gi4_3 Go) ?_
    refine e_if hm (fun _ hm => ?_) (fun _ hm => ?_)
    · obtain ⟨x9, e9, e7, Gi, Gd, Go, Ri, Rd, F⟩ := l_X5_readClause_75 pi pd po Did Dio Ddo _ _ _ _ _ _ hm Gi Gd Go ((congrFun Qi 0).trans Ed)
      exact ⟨x9, e9, e7, Gi, Gd, Go, Ri.trans Qi, Rd.trans Qd, fun a na => (F a na).trans (FR a na)⟩
    · obtain ⟨x9, e9, e7, Gi, Gd, Go, Ri, Rd, F⟩ := l_X5_readClause_75 pi pd po Did Dio Ddo _ _ _ _ _ _ hm Gi Gd Go ((congrFun Qi 0).trans Ed)
      exact ⟨x9, e9, e7, Gi, Gd, Go, Ri.trans Qi, Rd.trans Qd, fun a na => (F a na).trans (FR a na)⟩
  · refine e_if hm (fun _ hm => ?_) (fun _ hm => ?_)
    · refine e_bd (gi5_1 Gi) ?_
      refine e_if hm (fun _ hm => ?_) (fun _ hm => ?_)
      · refine e_oo hm (fun r5 hm => ?_)
        refine e_if hm (fun _ hm => ?_) (fun _ hm => ?_)
        · obtain ⟨x9, e9, e7, Gi, Gd, Go, Ri, Rd, F⟩ := l_X5_readClause_118 pi pd po Did Dio Ddo _ _ _ _ hm Gi Gd Go ((congrFun Qi 0).trans Ed)
          exact ⟨x9, e9, e7, Gi, Gd, Go, Ri.trans Qi, Rd.trans Qd, fun a na => (F a na).trans (FR a na)⟩
        · obtain ⟨⟨r7, i1, d2, o3⟩, e8, hm⟩ := q_b hm
          have Gc := Gi
          obtain ⟨⟨r9, h8⟩, e9, e7, Gi, Gd, Go, Ri, Rd, F⟩ := l_X5_readRibbon _ _ _ _ _ _ _ e8 Gi Gd Go ((congrFun Qi 0).trans Ed) Did Dio Ddo
          dsimp only at e7 Gi Gd Go F
          subst e7
          have Qi := Ri.trans Qi
          have Qd := Rd.trans Qd
          refine e_bd ((ca5 Gc).trans e9) ?_
          have FR := fun a na => (F a (fun hq => hq.elim (fun hb => na (Or.inl hb)) (fun hq => hq.elim (fun hb => na (Or.inr (Or.inl hb))) (fun hb => na (Or.inr (Or.inr (hb))))))).trans (FR a na)
          have hq0 := Option.some.inj hm
          clear hm
          obtain ⟨rfl, hq1⟩ := Prod.mk.inj hq0
          obtain ⟨rfl, hq2⟩ := Prod.mk.inj hq1
          obtain ⟨rfl, rfl⟩ := Prod.mk.inj hq2
          exact ⟨_, rfl, rfl, Gi, Gd, Go, Qi, Qd, FR⟩
      · obtain ⟨x9, e9, e7, Gi, Gd, Go, Ri, Rd, F⟩ := l_X5_readClause_118 pi pd po Did Dio Ddo _ _ _ _ hm Gi Gd Go ((congrFun Qi 0).trans Ed)
        exact ⟨x9, e9, e7, Gi, Gd, Go, Ri.trans Qi, Rd.trans Qd, fun a na => (F a na).trans (FR a na)⟩
    · refine e_if hm (fun _ hm => ?_) (fun _ hm => ?_)
      · refine e_if hm (fun _ hm => ?_) (fun _ hm => ?_)
        · obtain ⟨⟨r10, d4, o5⟩, e8, hm⟩ := q_b hm
          have Gc := Gi
          obtain ⟨⟨r9, h11⟩, e9, e7, Gd, Go, Rd, F⟩ := l_X5_readRope _ _ _ _ _ _ _ e8 Gi Gd Go ((congrFun Qi 0).trans Ed) Did Dio Ddo
          dsimp only at e7 Gd Go F
          subst e7
          have Qd := Rd.trans Qd
          refine e_bd ((ca5 Gc).trans e9) ?_
          have Gi := fr5 Gi (fun a ha => F a (fun hq => hq.elim (fun hb => Did _ ha hb) (fun hb => Dio _ ha hb)))
          have FR := fun a na => (F a (fun hq => hq.elim (fun hb => na (Or.inr (Or.inl hb))) (fun hb => na (Or.inr (Or.inr (hb)))))).trans (FR a na)
          have hq0 := Option.some.inj hm
          clear hm
          obtain ⟨rfl, hq1⟩ := Prod.mk.inj hq0
          obtain ⟨rfl, hq2⟩ := Prod.mk.inj hq1
          obtain ⟨rfl, rfl⟩ := Prod.mk.inj hq2
          exact ⟨_, rfl, rfl, Gi, Gd, Go, Qi, Qd, FR⟩
        · refine e_bd (gp5_0 Gi ((congrFun Qi 0).trans Ed)) ?_
          obtain ⟨⟨r14, d6⟩, e8, hm⟩ := q_b hm
          have Gc := Gd
          obtain ⟨⟨r9, h15⟩, e9, e7, Gd, Rd, F⟩ := l_X3_refuse _ _ _ _ e8 Gd  
          dsimp only at e7 Gd F
          subst e7
          have Qd := Rd.trans Qd
          refine e_bd ((ca3 Gc).trans e9) ?_
          have Gi := fr5 Gi (fun a ha => F a (fun hb => Did _ ha hb))
          have Go := fr4 Go (fun a ha => F a (fun hb => Ddo _ hb ha))
          have FR := fun a na => (F a (fun hb => na (Or.inr (Or.inl hb)))).trans (FR a na)
          have hq0 := Option.some.inj hm
          clear hm
          obtain ⟨rfl, hq1⟩ := Prod.mk.inj hq0
          obtain ⟨rfl, hq2⟩ := Prod.mk.inj hq1
          obtain ⟨rfl, rfl⟩ := Prod.mk.inj hq2
          exact ⟨_, rfl, rfl, Gi, Gd, Go, Qi, Qd, FR⟩
      · refine e_bd (gp5_0 Gi ((congrFun Qi 0).trans Ed)) ?_
        obtain ⟨⟨r18, d7⟩, e8, hm⟩ := q_b hm
        have Gc := Gd
        obtain ⟨⟨r9, h19⟩, e9, e7, Gd, Rd, F⟩ := l_X3_refuse _ _ _ _ e8 Gd  
        dsimp only at e7 Gd F
        subst e7
        have Qd := Rd.trans Qd
        refine e_bd ((ca3 Gc).trans e9) ?_
        have Gi := fr5 Gi (fun a ha => F a (fun hb => Did _ ha hb))
        have Go := fr4 Go (fun a ha => F a (fun hb => Ddo _ hb ha))
        have FR := fun a na => (F a (fun hb => na (Or.inr (Or.inl hb)))).trans (FR a na)
        have hq0 := Option.some.inj hm
        clear hm
        obtain ⟨rfl, hq1⟩ := Prod.mk.inj hq0
        obtain ⟨rfl, hq2⟩ := Prod.mk.inj hq1
        obtain ⟨rfl, rfl⟩ := Prod.mk.inj hq2
        exact ⟨_, rfl, rfl, Gi, Gd, Go, Qi, Qd, FR⟩
def t_X7_mark (j : g_S) : Option g_S :=
  let v1 := g_I j 4
  let v3 := Int32.ofNat 25
  if v3 ≤ v1 then
    some j
  else
    let v5 := g_I j 4
    let v6 := g_I j 2
    (u_si 25 j 3 v5 v6).bind fun j1 =>
    let v8 := g_I j1 4
    let j2 := g_si j1 4 (v8 + (1 : Int32))
    some j2
set_option maxRecDepth 20000 in
theorem l_X7_mark (h : q_H) (pj : Nat) (j : g_S) {j' : g_S} (hm : t_X7_mark j = some j') (Gj : g7 pj j h) : q_E (m_X7_mark h pj) (fun x => g7 pj j' (x) ∧ g_P j' = g_P j ∧ ∀ a, ¬ (f7 pj a) → (x) a = h a) := by
  unfold t_X7_mark at hm
  unfold m_X7_mark
  have FR : ∀ a, ¬ (f7 pj a) → h a = h a := fun _ _ => rfl
  have Qj : g_P j = g_P j := rfl
  refine e_bd (gi7_4 Gj) ?_
  refine e_bd (gn7_3 Gj) ?_
  refine e_bd (ln7_3 Gj) ?_
  refine e_if hm (fun _ hm => ?_) (fun _ hm => ?_)
  · obtain rfl := Option.some.inj hm
    exact ⟨_, rfl, Gj, Qj, FR⟩
  · refine e_bd (gn7_3 Gj) ?_
    refine e_bd (gi7_4 Gj) ?_
    refine e_bd (gi7_2 Gj) ?_
    obtain ⟨j1, e8, hm⟩ := q_b hm
    obtain ⟨h7, e9, Gj, F⟩ := as7_3 Gj e8
    have Qj := (u_si_P e8).trans Qj
    refine e_bd e9 ?_
    have FR := fun a na => (F a (fun hb => na (hb))).trans (FR a na)
    refine e_bd (gi7_4 Gj) ?_
    refine e_pi (pi7_4 _ Gj) (fun h9 Gj F => ?_)
    have FR := fun a na => (F a (fun hb => na (hb))).trans (FR a na)
    obtain rfl := Option.some.inj hm
    exact ⟨_, rfl, Gj, Qj, FR⟩
def t_X7_write (j : g_S) (a1 : Int32) (a2 : Int32) : Option g_S :=
  let v1 := g_I j 2
  let v3 := Int32.ofNat 400
  if v3 ≤ v1 then
    some j
  else
    let v5 := g_I j 2
    (u_si 400 j 1 v5 ((a1 + ((32 : Int32) * a2)))).bind fun j1 =>
    let v7 := g_I j1 2
    let j2 := g_si j1 2 (v7 + (1 : Int32))
    some j2
set_option maxRecDepth 20000 in
theorem l_X7_write (h : q_H) (pj : Nat) (j : g_S) (a1 : Int32) (a2 : Int32) {j' : g_S} (hm : t_X7_write j a1 a2 = some j') (Gj : g7 pj j h) : q_E (m_X7_write h pj a1 a2) (fun x => g7 pj j' (x) ∧ g_P j' = g_P j ∧ ∀ a, ¬ (f7 pj a) → (x) a = h a) := by
  unfold t_X7_write at hm
  unfold m_X7_write
  have FR : ∀ a, ¬ (f7 pj a) → h a = h a := fun _ _ => rfl
  have Qj : g_P j = g_P j := rfl
  refine e_bd (gi7_2 Gj) ?_
  refine e_bd (gn7_1 Gj) ?_
  refine e_bd (ln7_1 Gj) ?_
  refine e_if hm (fun _ hm => ?_) (fun _ hm => ?_)
  · obtain rfl := Option.some.inj hm
    exact ⟨_, rfl, Gj, Qj, FR⟩
  · refine e_bd (gn7_1 Gj) ?_
    refine e_bd (gi7_2 Gj) ?_
    obtain ⟨j1, e8, hm⟩ := q_b hm
    obtain ⟨h6, e9, Gj, F⟩ := as7_1 Gj e8
    have Qj := (u_si_P e8).trans Qj
    refine e_bd e9 ?_
    have FR := fun a na => (F a (fun hb => na (hb))).trans (FR a na)
    refine e_bd (gi7_2 Gj) ?_
    refine e_pi (pi7_2 _ Gj) (fun h8 Gj F => ?_)
    have FR := fun a na => (F a (fun hb => na (hb))).trans (FR a na)
    obtain rfl := Option.some.inj hm
    exact ⟨_, rfl, Gj, Qj, FR⟩
def t_X7_readValue_126 (j d : g_S) (s0 : Int32) (s1 : Int32) : Option (Int32 × g_S × g_S) :=
  (t_X7_write j s1 s0).bind fun j5 =>
  (t_X3_next d).bind fun d6 =>
  some ((1 : Int32), j5, d6)
set_option maxRecDepth 20000 in
theorem l_X7_readValue_126 (pj pd : Nat) (Djd : ∀ a, f7 pj a → f3 pd a → False) {r : Int32} {j' d' : g_S} : ∀ (h : q_H) (j d : g_S) (s0 : Int32) (s1 : Int32), t_X7_readValue_126 j d s0 s1 = some (r, j', d') → g7 pj j h → g3 pd d h → g_P j 0 = some pd → q_E (m_X7_readValue_126 h pj s0 s1 pj) (fun x => x.1 = r ∧ g7 pj j' (x.2) ∧ g3 pd d' (x.2) ∧ g_P j' = g_P j ∧ g_P d' = g_P d ∧ ∀ a, ¬ (f7 pj a ∨ f3 pd a) → (x.2) a = h a) := by
  intro h j d s0 s1 hm Gj Gd Ed
  unfold t_X7_readValue_126 at hm
  unfold m_X7_readValue_126
  have FR : ∀ a, ¬ (f7 pj a ∨ f3 pd a) → h a = h a := fun _ _ => rfl
  have Qj : g_P j = g_P j := rfl
  have Qd : g_P d = g_P d := rfl
  obtain ⟨j5, e8, hm⟩ := q_b hm
  have Gc := Gj
  obtain ⟨h29, e9, Gj, Rj, F⟩ := l_X7_write _ _ _ _ _ e8 Gj  
  have Qj := Rj.trans Qj
  refine e_bd ((ca7 Gc).trans e9) ?_
  have Gd := fr3 Gd (fun a ha => F a (fun hb => Djd _ hb ha))
  have FR := fun a na => (F a (fun hb => na (Or.inl hb))).trans (FR a na)
  refine e_bd (gp7_0 Gj ((congrFun Qj 0).trans Ed)) ?_
  obtain ⟨d6, e8, hm⟩ := q_b hm
  have Gc := Gd
  obtain ⟨h32, e9, Gd, Rd, F⟩ := l_X3_next _ _ _ e8 Gd  
  have Qd := Rd.trans Qd
  refine e_bd ((ca3 Gc).trans e9) ?_
  have Gj := fr7 Gj (fun a ha => F a (fun hb => Djd _ ha hb))
  have FR := fun a na => (F a (fun hb => na (Or.inr (hb)))).trans (FR a na)
  have hq0 := Option.some.inj hm
  clear hm
  obtain ⟨rfl, hq1⟩ := Prod.mk.inj hq0
  obtain ⟨rfl, rfl⟩ := Prod.mk.inj hq1
  exact ⟨_, rfl, rfl, Gj, Gd, Qj, Qd, FR⟩
def t_X7_readValue_101 (j d : g_S) (x1 : Int32) (s0 : Int32) : Option (Int32 × g_S × g_S) :=
  if x1 = 0 then
    let v25 := g_I d 7
    t_X7_readValue_126 j d v25 s0
  else
    let v27 := g_I d 6
    t_X7_readValue_126 j d ((v27 - (700 : Int32))) s0
set_option maxRecDepth 20000 in
theorem l_X7_readValue_101 (pj pd : Nat) (Djd : ∀ a, f7 pj a → f3 pd a → False) {r : Int32} {j' d' : g_S} : ∀ (h : q_H) (j d : g_S) (x1 : Int32) (s0 : Int32), t_X7_readValue_101 j d x1 s0 = some (r, j', d') → g7 pj j h → g3 pd d h → g_P j 0 = some pd → q_E (m_X7_readValue_101 h pj x1 s0 pj) (fun x => x.1 = r ∧ g7 pj j' (x.2) ∧ g3 pd d' (x.2) ∧ g_P j' = g_P j ∧ g_P d' = g_P d ∧ ∀ a, ¬ (f7 pj a ∨ f3 pd a) → (x.2) a = h a) := by
  intro h j d x1 s0 hm Gj Gd Ed
  unfold t_X7_readValue_101 at hm
  unfold m_X7_readValue_101
  have FR : ∀ a, ¬ (f7 pj a ∨ f3 pd a) → h a = h a := fun _ _ => rfl
  have Qj : g_P j = g_P j := rfl
  have Qd : g_P d = g_P d := rfl
  refine e_if hm (fun _ hm => ?_) (fun _ hm => ?_)
  · refine e_bd (gp7_0 Gj ((congrFun Qj 0).trans Ed)) ?_
    refine e_bd (gi3_7 Gd) ?_
    obtain ⟨x9, e9, e7, Gj, Gd, Rj, Rd, F⟩ := l_X7_readValue_126 pj pd Djd _ _ _ _ _ hm Gj Gd ((congrFun Qj 0).trans Ed)
    exact ⟨x9, e9, e7, Gj, Gd, Rj.trans Qj, Rd.trans Qd, fun a na => (F a na).trans (FR a na)⟩
  · refine e_bd (gp7_0 Gj ((congrFun Qj 0).trans Ed)) ?_
    refine e_bd (gi3_6 Gd) ?_
    obtain ⟨x9, e9, e7, Gj, Gd, Rj, Rd, F⟩ := l_X7_readValue_126 pj pd Djd _ _ _ _ _ hm Gj Gd ((congrFun Qj 0).trans Ed)
    exact ⟨x9, e9, e7, Gj, Gd, Rj.trans Qj, Rd.trans Qd, fun a na => (F a na).trans (FR a na)⟩
def t_X7_readValue_61 (j d : g_S) (x1 : Int32) : Option (Int32 × g_S × g_S) :=
  let v17 := g_I j 8
  if v17 < (60 : Int32) then
    let v18 := g_I j 8
    let j3 := g_si j 8 (v18 + (1 : Int32))
    if x1 = 0 then
      t_X7_readValue_101 j3 d x1 ((15 : Int32))
    else
      t_X7_readValue_101 j3 d x1 ((16 : Int32))
  else
    (t_X3_refuse d ((3 : Int32))).bind fun (r21, d4) =>
    some (r21, j, d4)
set_option maxRecDepth 20000 in
theorem l_X7_readValue_61 (pj pd : Nat) (Djd : ∀ a, f7 pj a → f3 pd a → False) {r : Int32} {j' d' : g_S} : ∀ (h : q_H) (j d : g_S) (x1 : Int32), t_X7_readValue_61 j d x1 = some (r, j', d') → g7 pj j h → g3 pd d h → g_P j 0 = some pd → q_E (m_X7_readValue_61 h pj x1) (fun x => x.1 = r ∧ g7 pj j' (x.2) ∧ g3 pd d' (x.2) ∧ g_P j' = g_P j ∧ g_P d' = g_P d ∧ ∀ a, ¬ (f7 pj a ∨ f3 pd a) → (x.2) a = h a) := by
  intro h j d x1 hm Gj Gd Ed
  unfold t_X7_readValue_61 at hm
  unfold m_X7_readValue_61
  have FR : ∀ a, ¬ (f7 pj a ∨ f3 pd a) → h a = h a := fun _ _ => rfl
  have Qj : g_P j = g_P j := rfl
  have Qd : g_P d = g_P d := rfl
  refine e_bd (gi7_8 Gj) ?_
  refine e_if hm (fun _ hm => ?_) (fun _ hm => ?_)
  · refine e_bd (gi7_8 Gj) ?_
    refine e_pi (pi7_8 _ Gj) (fun h19 Gj F => ?_)
    have Gd := fr3 Gd (fun a ha => F a (fun hb => Djd _ hb ha))
    have FR := fun a na => (F a (fun hb => na (Or.inl hb))).trans (FR a na)
    refine e_if hm (fun _ hm => ?_) (fun _ hm => ?_)
    · obtain ⟨x9, e9, e7, Gj, Gd, Rj, Rd, F⟩ := l_X7_readValue_101 pj pd Djd _ _ _ _ _ hm Gj Gd ((congrFun Qj 0).trans Ed)
      exact ⟨x9, e9, e7, Gj, Gd, Rj.trans Qj, Rd.trans Qd, fun a na => (F a na).trans (FR a na)⟩
    · obtain ⟨x9, e9, e7, Gj, Gd, Rj, Rd, F⟩ := l_X7_readValue_101 pj pd Djd _ _ _ _ _ hm Gj Gd ((congrFun Qj 0).trans Ed)
      exact ⟨x9, e9, e7, Gj, Gd, Rj.trans Qj, Rd.trans Qd, fun a na => (F a na).trans (FR a na)⟩
  · refine e_bd (gp7_0 Gj ((congrFun Qj 0).trans Ed)) ?_
    obtain ⟨⟨r21, d4⟩, e8, hm⟩ := q_b hm
    have Gc := Gd
    obtain ⟨⟨r9, h22⟩, e9, e7, Gd, Rd, F⟩ := l_X3_refuse _ _ _ _ e8 Gd  
    dsimp only at e7 Gd F
    subst e7
    have Qd := Rd.trans Qd
    refine e_bd ((ca3 Gc).trans e9) ?_
    have Gj := fr7 Gj (fun a ha => F a (fun hb => Djd _ ha hb))
    have FR := fun a na => (F a (fun hb => na (Or.inr (hb)))).trans (FR a na)
    have hq0 := Option.some.inj hm
    clear hm
    obtain ⟨rfl, hq1⟩ := Prod.mk.inj hq0
    obtain ⟨rfl, rfl⟩ := Prod.mk.inj hq1
    exact ⟨_, rfl, rfl, Gj, Gd, Qj, Qd, FR⟩
def t_X7_readValue_37 (j d : g_S) (x1 : Int32) : Option (Int32 × g_S × g_S) :=
  if x1 = 0 then
    let v12 := g_I d 7
    if v12 = (-1 : Int32) then
      (t_X3_refuse d ((1 : Int32))).bind fun (r14, d2) =>
      some (r14, j, d2)
    else
      t_X7_readValue_61 j d x1
  else
    t_X7_readValue_61 j d x1
set_option maxRecDepth 20000 in
theorem l_X7_readValue_37 (pj pd : Nat) (Djd : ∀ a, f7 pj a → f3 pd a → False) {r : Int32} {j' d' : g_S} : ∀ (h : q_H) (j d : g_S) (x1 : Int32), t_X7_readValue_37 j d x1 = some (r, j', d') → g7 pj j h → g3 pd d h → g_P j 0 = some pd → q_E (m_X7_readValue_37 h pj x1) (fun x => x.1 = r ∧ g7 pj j' (x.2) ∧ g3 pd d' (x.2) ∧ g_P j' = g_P j ∧ g_P d' = g_P d ∧ ∀ a, ¬ (f7 pj a ∨ f3 pd a) → (x.2) a = h a) := by
  intro h j d x1 hm Gj Gd Ed
  unfold t_X7_readValue_37 at hm
  unfold m_X7_readValue_37
  have FR : ∀ a, ¬ (f7 pj a ∨ f3 pd a) → h a = h a := fun _ _ => rfl
  have Qj : g_P j = g_P j := rfl
  have Qd : g_P d = g_P d := rfl
  refine e_if hm (fun _ hm => ?_) (fun _ hm => ?_)
  · refine e_bd (gp7_0 Gj ((congrFun Qj 0).trans Ed)) ?_
    refine e_bd (gi3_7 Gd) ?_
    refine e_if hm (fun _ hm => ?_) (fun _ hm => ?_)
    · refine e_bd (gp7_0 Gj ((congrFun Qj 0).trans Ed)) ?_
      obtain ⟨⟨r14, d2⟩, e8, hm⟩ := q_b hm
      have Gc := Gd
      obtain ⟨⟨r9, h15⟩, e9, e7, Gd, Rd, F⟩ := l_X3_refuse _ _ _ _ e8 Gd  
      dsimp only at e7 Gd F
      subst e7
      have Qd := Rd.trans Qd
      refine e_bd ((ca3 Gc).trans e9) ?_
      have Gj := fr7 Gj (fun a ha => F a (fun hb => Djd _ ha hb))
      have FR := fun a na => (F a (fun hb => na (Or.inr (hb)))).trans (FR a na)
      have hq0 := Option.some.inj hm
      clear hm
      obtain ⟨rfl, hq1⟩ := Prod.mk.inj hq0
      obtain ⟨rfl, rfl⟩ := Prod.mk.inj hq1
      exact ⟨_, rfl, rfl, Gj, Gd, Qj, Qd, FR⟩
    · obtain ⟨x9, e9, e7, Gj, Gd, Rj, Rd, F⟩ := l_X7_readValue_61 pj pd Djd _ _ _ _ hm Gj Gd ((congrFun Qj 0).trans Ed)
      exact ⟨x9, e9, e7, Gj, Gd, Rj.trans Qj, Rd.trans Qd, fun a na => (F a na).trans (FR a na)⟩
  · obtain ⟨x9, e9, e7, Gj, Gd, Rj, Rd, F⟩ := l_X7_readValue_61 pj pd Djd _ _ _ _ hm Gj Gd ((congrFun Qj 0).trans Ed)
    exact ⟨x9, e9, e7, Gj, Gd, Rj.trans Qj, Rd.trans Qd, fun a na => (F a na).trans (FR a na)⟩
def t_X7_readValue (j d : g_S) : Option (Int32 × g_S × g_S) :=
  let v2 := g_I d 6
  (m_X7_isValueWord v2).bind fun r3 =>
  if r3 = 0 then
    let v6 := g_I d 6
    if v6 = (601 : Int32) then
      t_X7_readValue_37 j d r3
    else
      (t_X3_refuse d ((0 : Int32))).bind fun (r8, d1) =>
      some (r8, j, d1)
  else
    t_X7_readValue_37 j d r3
set_option maxRecDepth 20000 in
theorem l_X7_readValue (h : q_H) (pj pd : Nat) (j d : g_S) {r : Int32} {j' d' : g_S} (hm : t_X7_readValue j d = some (r, j', d')) (Gj : g7 pj j h) (Gd : g3 pd d h) (Ed : g_P j 0 = some pd) (Djd : ∀ a, f7 pj a → f3 pd a → False) : q_E (m_X7_readValue h pj) (fun x => x.1 = r ∧ g7 pj j' (x.2) ∧ g3 pd d' (x.2) ∧ g_P j' = g_P j ∧ g_P d' = g_P d ∧ ∀ a, ¬ (f7 pj a ∨ f3 pd a) → (x.2) a = h a) := by
  unfold t_X7_readValue at hm
  unfold m_X7_readValue
  have FR : ∀ a, ¬ (f7 pj a ∨ f3 pd a) → h a = h a := fun _ _ => rfl
  have Qj : g_P j = g_P j := rfl
  have Qd : g_P d = g_P d := rfl
  refine e_bd (gp7_0 Gj ((congrFun Qj 0).trans Ed)) ?_
  refine e_bd (gi3_6 Gd) ?_
  refine e_oo hm (fun r3 hm => ?_)
  refine e_if hm (fun _ hm => ?_) (fun _ hm => ?_)
  · refine e_bd (gp7_0 Gj ((congrFun Qj 0).trans Ed)) ?_
    refine e_bd (gi3_6 Gd) ?_
    refine e_if hm (fun _ hm => ?_) (fun _ hm => ?_)
    · obtain ⟨x9, e9, e7, Gj, Gd, Rj, Rd, F⟩ := l_X7_readValue_37 pj pd Djd _ _ _ _ hm Gj Gd ((congrFun Qj 0).trans Ed)
      exact ⟨x9, e9, e7, Gj, Gd, Rj.trans Qj, Rd.trans Qd, fun a na => (F a na).trans (FR a na)⟩
    · refine e_bd (gp7_0 Gj ((congrFun Qj 0).trans Ed)) ?_
      obtain ⟨⟨r8, d1⟩, e8, hm⟩ := q_b hm
      have Gc := Gd
      obtain ⟨⟨r9, h9⟩, e9, e7, Gd, Rd, F⟩ := l_X3_refuse _ _ _ _ e8 Gd  
      dsimp only at e7 Gd F
      subst e7
      have Qd := Rd.trans Qd
      refine e_bd ((ca3 Gc).trans e9) ?_
      have Gj := fr7 Gj (fun a ha => F a (fun hb => Djd _ ha hb))
      have FR := fun a na => (F a (fun hb => na (Or.inr (hb)))).trans (FR a na)
      have hq0 := Option.some.inj hm
      clear hm
      obtain ⟨rfl, hq1⟩ := Prod.mk.inj hq0
      obtain ⟨rfl, rfl⟩ := Prod.mk.inj hq1
      exact ⟨_, rfl, rfl, Gj, Gd, Qj, Qd, FR⟩
  · obtain ⟨x9, e9, e7, Gj, Gd, Rj, Rd, F⟩ := l_X7_readValue_37 pj pd Djd _ _ _ _ hm Gj Gd ((congrFun Qj 0).trans Ed)
    exact ⟨x9, e9, e7, Gj, Gd, Rj.trans Qj, Rd.trans Qd, fun a na => (F a na).trans (FR a na)⟩
def t_X7_readSum_72 (k6 : g_S → g_S → Int32 → Int32 → Int32 → Option (g_S × g_S)) (j d : g_S) (x1 : Int32) (x2 : Int32) (x3 : Int32) (x4 : Int32) : Option (g_S × g_S) :=
  if x4 = 0 then
    some (j, d)
  else
    (t_X3_next d).bind fun d5 =>
    k6 j d5 x1 x2 ((x3 + (1 : Int32)))
set_option maxRecDepth 20000 in
theorem l_X7_readSum_72 (pj pd : Nat) (Djd : ∀ a, f7 pj a → f3 pd a → False) {j' d' : g_S} {k6 : g_S → g_S → Int32 → Int32 → Int32 → Option (g_S × g_S)} {gk6 : q_H → Nat → Int32 → Int32 → Int32 → Option q_H} (hk6 : ∀ (h : q_H) (j d : g_S) (x1 : Int32) (x2 : Int32) (x3 : Int32), k6 j d x1 x2 x3 = some (j', d') → g7 pj j h → g3 pd d h → g_P j 0 = some pd → q_E (gk6 h pj x1 x2 x3) (fun x => g7 pj j' (x) ∧ g3 pd d' (x) ∧ g_P j' = g_P j ∧ g_P d' = g_P d ∧ ∀ a, ¬ (f7 pj a ∨ f3 pd a) → (x) a = h a)) : ∀ (h : q_H) (j d : g_S) (x1 : Int32) (x2 : Int32) (x3 : Int32) (x4 : Int32), t_X7_readSum_72 k6 j d x1 x2 x3 x4 = some (j', d') → g7 pj j h → g3 pd d h → g_P j 0 = some pd → q_E (m_X7_readSum_72 gk6 h pj x1 x2 x3 x4) (fun x => g7 pj j' (x) ∧ g3 pd d' (x) ∧ g_P j' = g_P j ∧ g_P d' = g_P d ∧ ∀ a, ¬ (f7 pj a ∨ f3 pd a) → (x) a = h a) := by
  intro h j d x1 x2 x3 x4 hm Gj Gd Ed
  unfold t_X7_readSum_72 at hm
  unfold m_X7_readSum_72
  have FR : ∀ a, ¬ (f7 pj a ∨ f3 pd a) → h a = h a := fun _ _ => rfl
  have Qj : g_P j = g_P j := rfl
  have Qd : g_P d = g_P d := rfl
  refine e_if hm (fun _ hm => ?_) (fun _ hm => ?_)
  · have hq0 := Option.some.inj hm
    clear hm
    obtain ⟨rfl, rfl⟩ := Prod.mk.inj hq0
    exact ⟨_, rfl, Gj, Gd, Qj, Qd, FR⟩
  · refine e_bd (gp7_0 Gj ((congrFun Qj 0).trans Ed)) ?_
    obtain ⟨d5, e8, hm⟩ := q_b hm
    have Gc := Gd
    obtain ⟨h14, e9, Gd, Rd, F⟩ := l_X3_next _ _ _ e8 Gd  
    have Qd := Rd.trans Qd
    refine e_bd ((ca3 Gc).trans e9) ?_
    have Gj := fr7 Gj (fun a ha => F a (fun hb => Djd _ ha hb))
    have FR := fun a na => (F a (fun hb => na (Or.inr (hb)))).trans (FR a na)
    obtain ⟨x9, e9, Gj, Gd, Rj, Rd, F⟩ := hk6 _ _ _ _ _ _ hm Gj Gd ((congrFun Qj 0).trans Ed)
    exact ⟨x9, e9, Gj, Gd, Rj.trans Qj, Rd.trans Qd, fun a na => (F a na).trans (FR a na)⟩
def t_X7_readSum_69 (k6 : g_S → g_S → Int32 → Int32 → Int32 → Option (g_S × g_S)) (j d : g_S) (x2 : Int32) (x3 : Int32) (x4 : Int32) : Option (g_S × g_S) :=
  t_X7_readSum_72 k6 j d x4 x2 x3 x4
set_option maxRecDepth 20000 in
theorem l_X7_readSum_69 (pj pd : Nat) (Djd : ∀ a, f7 pj a → f3 pd a → False) {j' d' : g_S} {k6 : g_S → g_S → Int32 → Int32 → Int32 → Option (g_S × g_S)} {gk6 : q_H → Nat → Int32 → Int32 → Int32 → Option q_H} (hk6 : ∀ (h : q_H) (j d : g_S) (x1 : Int32) (x2 : Int32) (x3 : Int32), k6 j d x1 x2 x3 = some (j', d') → g7 pj j h → g3 pd d h → g_P j 0 = some pd → q_E (gk6 h pj x1 x2 x3) (fun x => g7 pj j' (x) ∧ g3 pd d' (x) ∧ g_P j' = g_P j ∧ g_P d' = g_P d ∧ ∀ a, ¬ (f7 pj a ∨ f3 pd a) → (x) a = h a)) : ∀ (h : q_H) (j d : g_S) (x2 : Int32) (x3 : Int32) (x4 : Int32), t_X7_readSum_69 k6 j d x2 x3 x4 = some (j', d') → g7 pj j h → g3 pd d h → g_P j 0 = some pd → q_E (m_X7_readSum_69 gk6 h pj x2 x3 x4) (fun x => g7 pj j' (x) ∧ g3 pd d' (x) ∧ g_P j' = g_P j ∧ g_P d' = g_P d ∧ ∀ a, ¬ (f7 pj a ∨ f3 pd a) → (x) a = h a) := by
  intro h j d x2 x3 x4 hm Gj Gd Ed
  unfold t_X7_readSum_69 at hm
  unfold m_X7_readSum_69
  have FR : ∀ a, ¬ (f7 pj a ∨ f3 pd a) → h a = h a := fun _ _ => rfl
  have Qj : g_P j = g_P j := rfl
  have Qd : g_P d = g_P d := rfl
  obtain ⟨x9, e9, Gj, Gd, Rj, Rd, F⟩ := l_X7_readSum_72 pj pd Djd hk6 _ _ _ _ _ _ _ hm Gj Gd ((congrFun Qj 0).trans Ed)
  exact ⟨x9, e9, Gj, Gd, Rj.trans Qj, Rd.trans Qd, fun a na => (F a na).trans (FR a na)⟩
def t_X7_readSum_54 (k6 : g_S → g_S → Int32 → Int32 → Int32 → Option (g_S × g_S)) (j d : g_S) (x1 : Int32) (x3 : Int32) (x4 : Int32) (s0 : Int32) : Option (g_S × g_S) :=
  if s0 = 0 then
    if x1 = 0 then
      t_X7_readSum_69 k6 j d s0 x3 x4
    else
      (t_X7_write j x1 ((0 : Int32))).bind fun j4 =>
      t_X7_readSum_69 k6 j4 d s0 x3 x4
  else
    t_X7_readSum_72 k6 j d x1 s0 x3 x4
set_option maxRecDepth 20000 in
theorem l_X7_readSum_54 (pj pd : Nat) (Djd : ∀ a, f7 pj a → f3 pd a → False) {j' d' : g_S} {k6 : g_S → g_S → Int32 → Int32 → Int32 → Option (g_S × g_S)} {gk6 : q_H → Nat → Int32 → Int32 → Int32 → Option q_H} (hk6 : ∀ (h : q_H) (j d : g_S) (x1 : Int32) (x2 : Int32) (x3 : Int32), k6 j d x1 x2 x3 = some (j', d') → g7 pj j h → g3 pd d h → g_P j 0 = some pd → q_E (gk6 h pj x1 x2 x3) (fun x => g7 pj j' (x) ∧ g3 pd d' (x) ∧ g_P j' = g_P j ∧ g_P d' = g_P d ∧ ∀ a, ¬ (f7 pj a ∨ f3 pd a) → (x) a = h a)) : ∀ (h : q_H) (j d : g_S) (x1 : Int32) (x3 : Int32) (x4 : Int32) (s0 : Int32), t_X7_readSum_54 k6 j d x1 x3 x4 s0 = some (j', d') → g7 pj j h → g3 pd d h → g_P j 0 = some pd → q_E (m_X7_readSum_54 gk6 h pj x1 x3 x4 s0) (fun x => g7 pj j' (x) ∧ g3 pd d' (x) ∧ g_P j' = g_P j ∧ g_P d' = g_P d ∧ ∀ a, ¬ (f7 pj a ∨ f3 pd a) → (x) a = h a) := by
  intro h j d x1 x3 x4 s0 hm Gj Gd Ed
  unfold t_X7_readSum_54 at hm
  unfold m_X7_readSum_54
  have FR : ∀ a, ¬ (f7 pj a ∨ f3 pd a) → h a = h a := fun _ _ => rfl
  have Qj : g_P j = g_P j := rfl
  have Qd : g_P d = g_P d := rfl
  refine e_if hm (fun _ hm => ?_) (fun _ hm => ?_)
  · refine e_if hm (fun _ hm => ?_) (fun _ hm => ?_)
    · obtain ⟨x9, e9, Gj, Gd, Rj, Rd, F⟩ := l_X7_readSum_69 pj pd Djd hk6 _ _ _ _ _ _ hm Gj Gd ((congrFun Qj 0).trans Ed)
      exact ⟨x9, e9, Gj, Gd, Rj.trans Qj, Rd.trans Qd, fun a na => (F a na).trans (FR a na)⟩
    · obtain ⟨j4, e8, hm⟩ := q_b hm
      have Gc := Gj
      obtain ⟨h11, e9, Gj, Rj, F⟩ := l_X7_write _ _ _ _ _ e8 Gj  
      have Qj := Rj.trans Qj
      refine e_bd ((ca7 Gc).trans e9) ?_
      have Gd := fr3 Gd (fun a ha => F a (fun hb => Djd _ hb ha))
      have FR := fun a na => (F a (fun hb => na (Or.inl hb))).trans (FR a na)
      obtain ⟨x9, e9, Gj, Gd, Rj, Rd, F⟩ := l_X7_readSum_69 pj pd Djd hk6 _ _ _ _ _ _ hm Gj Gd ((congrFun Qj 0).trans Ed)
      exact ⟨x9, e9, Gj, Gd, Rj.trans Qj, Rd.trans Qd, fun a na => (F a na).trans (FR a na)⟩
  · obtain ⟨x9, e9, Gj, Gd, Rj, Rd, F⟩ := l_X7_readSum_72 pj pd Djd hk6 _ _ _ _ _ _ _ hm Gj Gd ((congrFun Qj 0).trans Ed)
    exact ⟨x9, e9, Gj, Gd, Rj.trans Qj, Rd.trans Qd, fun a na => (F a na).trans (FR a na)⟩
def t_X7_readSum_29 (k6 : g_S → g_S → Int32 → Int32 → Int32 → Option (g_S × g_S)) (j d : g_S) (x1 : Int32) (x3 : Int32) : Option (g_S × g_S) :=
  let v7 := g_I d 6
  (m_X6_arithmetic v7).bind fun r8 =>
  if r8 < (7 : Int32) then
    t_X7_readSum_54 k6 j d x1 x3 r8 ((0 : Int32))
  else
    t_X7_readSum_54 k6 j d x1 x3 r8 r8
set_option maxRecDepth 20000 in
theorem l_X7_readSum_29 (pj pd : Nat) (Djd : ∀ a, f7 pj a → f3 pd a → False) {j' d' : g_S} {k6 : g_S → g_S → Int32 → Int32 → Int32 → Option (g_S × g_S)} {gk6 : q_H → Nat → Int32 → Int32 → Int32 → Option q_H} (hk6 : ∀ (h : q_H) (j d : g_S) (x1 : Int32) (x2 : Int32) (x3 : Int32), k6 j d x1 x2 x3 = some (j', d') → g7 pj j h → g3 pd d h → g_P j 0 = some pd → q_E (gk6 h pj x1 x2 x3) (fun x => g7 pj j' (x) ∧ g3 pd d' (x) ∧ g_P j' = g_P j ∧ g_P d' = g_P d ∧ ∀ a, ¬ (f7 pj a ∨ f3 pd a) → (x) a = h a)) : ∀ (h : q_H) (j d : g_S) (x1 : Int32) (x3 : Int32), t_X7_readSum_29 k6 j d x1 x3 = some (j', d') → g7 pj j h → g3 pd d h → g_P j 0 = some pd → q_E (m_X7_readSum_29 gk6 h pj x1 x3) (fun x => g7 pj j' (x) ∧ g3 pd d' (x) ∧ g_P j' = g_P j ∧ g_P d' = g_P d ∧ ∀ a, ¬ (f7 pj a ∨ f3 pd a) → (x) a = h a) := by
  intro h j d x1 x3 hm Gj Gd Ed
  unfold t_X7_readSum_29 at hm
  unfold m_X7_readSum_29
  have FR : ∀ a, ¬ (f7 pj a ∨ f3 pd a) → h a = h a := fun _ _ => rfl
  have Qj : g_P j = g_P j := rfl
  have Qd : g_P d = g_P d := rfl
  refine e_bd (gp7_0 Gj ((congrFun Qj 0).trans Ed)) ?_
  refine e_bd (gi3_6 Gd) ?_
  refine e_oo hm (fun r8 hm => ?_)
  refine e_if hm (fun _ hm => ?_) (fun _ hm => ?_)
  · obtain ⟨x9, e9, Gj, Gd, Rj, Rd, F⟩ := l_X7_readSum_54 pj pd Djd hk6 _ _ _ _ _ _ _ hm Gj Gd ((congrFun Qj 0).trans Ed)
    exact ⟨x9, e9, Gj, Gd, Rj.trans Qj, Rd.trans Qd, fun a na => (F a na).trans (FR a na)⟩
  · obtain ⟨x9, e9, Gj, Gd, Rj, Rd, F⟩ := l_X7_readSum_54 pj pd Djd hk6 _ _ _ _ _ _ _ hm Gj Gd ((congrFun Qj 0).trans Ed)
    exact ⟨x9, e9, Gj, Gd, Rj.trans Qj, Rd.trans Qd, fun a na => (F a na).trans (FR a na)⟩
def t_X7_readSum_6  : Nat → g_S → g_S → Int32 → Int32 → Int32 → Option (g_S × g_S)
  | 0, _, _, _, _, _ => none
  | n + 1, j, d, x1, x2, x3 =>
    if (60 : Int32) < x3 then
      some (j, d)
    else
      (t_X7_readValue j d).bind fun (r1, j1, d2) =>
      if r1 = 0 then
        some (j1, d2)
      else
        if x2 = 0 then
          t_X7_readSum_29 (t_X7_readSum_6 n) j1 d2 x1 x3
        else
          (t_X7_write j1 x2 ((0 : Int32))).bind fun j3 =>
          t_X7_readSum_29 (t_X7_readSum_6 n) j3 d2 x1 x3
set_option maxRecDepth 20000 in
theorem l_X7_readSum_6 (pj pd : Nat) (Djd : ∀ a, f7 pj a → f3 pd a → False) {j' d' : g_S} : ∀ (n : Nat) (h : q_H) (j d : g_S) (x1 : Int32) (x2 : Int32) (x3 : Int32), t_X7_readSum_6 n j d x1 x2 x3 = some (j', d') → g7 pj j h → g3 pd d h → g_P j 0 = some pd → q_E (m_X7_readSum_6 n h pj x1 x2 x3) (fun x => g7 pj j' (x) ∧ g3 pd d' (x) ∧ g_P j' = g_P j ∧ g_P d' = g_P d ∧ ∀ a, ¬ (f7 pj a ∨ f3 pd a) → (x) a = h a) := by
  intro n
  induction n with
  | zero => intro h j d x1 x2 x3 hm Gj Gd Ed; cases hm
  | succ n ih =>
    intro h j d x1 x2 x3 hm Gj Gd Ed
    unfold t_X7_readSum_6 at hm
    unfold m_X7_readSum_6
    have FR : ∀ a, ¬ (f7 pj a ∨ f3 pd a) → h a = h a := fun _ _ => rfl
    have Qj : g_P j = g_P j := rfl
    have Qd : g_P d = g_P d := rfl
    refine e_if hm (fun _ hm => ?_) (fun _ hm => ?_)
    · have hq0 := Option.some.inj hm
      clear hm
      obtain ⟨rfl, rfl⟩ := Prod.mk.inj hq0
      exact ⟨_, rfl, Gj, Gd, Qj, Qd, FR⟩
    · obtain ⟨⟨r1, j1, d2⟩, e8, hm⟩ := q_b hm
      have Gc := Gj
      obtain ⟨⟨r9, h2⟩, e9, e7, Gj, Gd, Rj, Rd, F⟩ := l_X7_readValue _ _ _ _ _ e8 Gj Gd ((congrFun Qj 0).trans Ed) Djd
      dsimp only at e7 Gj Gd F
      subst e7
      have Qj := Rj.trans Qj
      have Qd := Rd.trans Qd
      refine e_bd ((ca7 Gc).trans e9) ?_
      have FR := fun a na => (F a (fun hq => hq.elim (fun hb => na (Or.inl hb)) (fun hb => na (Or.inr (hb))))).trans (FR a na)
      refine e_if hm (fun _ hm => ?_) (fun _ hm => ?_)
      · have hq0 := Option.some.inj hm
        clear hm
        obtain ⟨rfl, rfl⟩ := Prod.mk.inj hq0
        exact ⟨_, rfl, Gj, Gd, Qj, Qd, FR⟩
      · refine e_if hm (fun _ hm => ?_) (fun _ hm => ?_)
        · obtain ⟨x9, e9, Gj, Gd, Rj, Rd, F⟩ := l_X7_readSum_29 pj pd Djd ih _ _ _ _ _ hm Gj Gd ((congrFun Qj 0).trans Ed)
          exact ⟨x9, e9, Gj, Gd, Rj.trans Qj, Rd.trans Qd, fun a na => (F a na).trans (FR a na)⟩
        · obtain ⟨j3, e8, hm⟩ := q_b hm
          have Gc := Gj
          obtain ⟨h5, e9, Gj, Rj, F⟩ := l_X7_write _ _ _ _ _ e8 Gj  
          have Qj := Rj.trans Qj
          refine e_bd ((ca7 Gc).trans e9) ?_
          have Gd := fr3 Gd (fun a ha => F a (fun hb => Djd _ hb ha))
          have FR := fun a na => (F a (fun hb => na (Or.inl hb))).trans (FR a na)
          obtain ⟨x9, e9, Gj, Gd, Rj, Rd, F⟩ := l_X7_readSum_29 pj pd Djd ih _ _ _ _ _ hm Gj Gd ((congrFun Qj 0).trans Ed)
          exact ⟨x9, e9, Gj, Gd, Rj.trans Qj, Rd.trans Qd, fun a na => (F a na).trans (FR a na)⟩
def t_X7_readSum (j d : g_S) : Option (g_S × g_S) :=
  t_X7_readSum_6 q_fu j d ((0 : Int32)) ((0 : Int32)) ((0 : Int32))
set_option maxRecDepth 20000 in
theorem l_X7_readSum (h : q_H) (pj pd : Nat) (j d : g_S) {j' d' : g_S} (hm : t_X7_readSum j d = some (j', d')) (Gj : g7 pj j h) (Gd : g3 pd d h) (Ed : g_P j 0 = some pd) (Djd : ∀ a, f7 pj a → f3 pd a → False) : q_E (m_X7_readSum h pj) (fun x => g7 pj j' (x) ∧ g3 pd d' (x) ∧ g_P j' = g_P j ∧ g_P d' = g_P d ∧ ∀ a, ¬ (f7 pj a ∨ f3 pd a) → (x) a = h a) := by
  unfold t_X7_readSum at hm
  unfold m_X7_readSum
  have FR : ∀ a, ¬ (f7 pj a ∨ f3 pd a) → h a = h a := fun _ _ => rfl
  have Qj : g_P j = g_P j := rfl
  have Qd : g_P d = g_P d := rfl
  obtain ⟨x9, e9, Gj, Gd, Rj, Rd, F⟩ := l_X7_readSum_6 pj pd Djd _ _ _ _ _ _ _ hm Gj Gd ((congrFun Qj 0).trans Ed)
  exact ⟨x9, e9, Gj, Gd, Rj.trans Qj, Rd.trans Qd, fun a na => (F a na).trans (FR a na)⟩
def t_X7_hold (j : g_S) (a1 : Int32) : Option g_S :=
  let v1 := g_I j 6
  let v3 := Int32.ofNat 40
  if v3 ≤ v1 then
    some j
  else
    let v5 := g_I j 6
    (u_si 40 j 5 v5 a1).bind fun j1 =>
    let v7 := g_I j1 6
    let j2 := g_si j1 6 (v7 + (1 : Int32))
    some j2
set_option maxRecDepth 20000 in
theorem l_X7_hold (h : q_H) (pj : Nat) (j : g_S) (a1 : Int32) {j' : g_S} (hm : t_X7_hold j a1 = some j') (Gj : g7 pj j h) : q_E (m_X7_hold h pj a1) (fun x => g7 pj j' (x) ∧ g_P j' = g_P j ∧ ∀ a, ¬ (f7 pj a) → (x) a = h a) := by
  unfold t_X7_hold at hm
  unfold m_X7_hold
  have FR : ∀ a, ¬ (f7 pj a) → h a = h a := fun _ _ => rfl
  have Qj : g_P j = g_P j := rfl
  refine e_bd (gi7_6 Gj) ?_
  refine e_bd (gn7_5 Gj) ?_
  refine e_bd (ln7_5 Gj) ?_
  refine e_if hm (fun _ hm => ?_) (fun _ hm => ?_)
  · obtain rfl := Option.some.inj hm
    exact ⟨_, rfl, Gj, Qj, FR⟩
  · refine e_bd (gn7_5 Gj) ?_
    refine e_bd (gi7_6 Gj) ?_
    obtain ⟨j1, e8, hm⟩ := q_b hm
    obtain ⟨h6, e9, Gj, F⟩ := as7_5 Gj e8
    have Qj := (u_si_P e8).trans Qj
    refine e_bd e9 ?_
    have FR := fun a na => (F a (fun hb => na (hb))).trans (FR a na)
    refine e_bd (gi7_6 Gj) ?_
    refine e_pi (pi7_6 _ Gj) (fun h8 Gj F => ?_)
    have FR := fun a na => (F a (fun hb => na (hb))).trans (FR a na)
    obtain rfl := Option.some.inj hm
    exact ⟨_, rfl, Gj, Qj, FR⟩
def t_X7_openAll_42 (k2 : g_S → g_S → Int32 → Option (g_S × g_S)) (j d : g_S) (x1 : Int32) (s0 : Int32) : Option (g_S × g_S) :=
  if s0 = 0 then
    some (j, d)
  else
    let v5 := g_I j 7
    if v5 < (10 : Int32) then
      let v6 := g_I j 7
      let j1 := g_si j 7 (v6 + (1 : Int32))
      (t_X7_hold j1 s0).bind fun j2 =>
      (t_X3_next d).bind fun d3 =>
      k2 j2 d3 ((x1 + (1 : Int32)))
    else
      (t_X3_refuse d ((2 : Int32))).bind fun (r14, d4) =>
      some (j, d4)
set_option maxRecDepth 20000 in
theorem l_X7_openAll_42 (pj pd : Nat) (Djd : ∀ a, f7 pj a → f3 pd a → False) {j' d' : g_S} {k2 : g_S → g_S → Int32 → Option (g_S × g_S)} {gk2 : q_H → Nat → Int32 → Option q_H} (hk2 : ∀ (h : q_H) (j d : g_S) (x1 : Int32), k2 j d x1 = some (j', d') → g7 pj j h → g3 pd d h → g_P j 0 = some pd → q_E (gk2 h pj x1) (fun x => g7 pj j' (x) ∧ g3 pd d' (x) ∧ g_P j' = g_P j ∧ g_P d' = g_P d ∧ ∀ a, ¬ (f7 pj a ∨ f3 pd a) → (x) a = h a)) : ∀ (h : q_H) (j d : g_S) (x1 : Int32) (s0 : Int32), t_X7_openAll_42 k2 j d x1 s0 = some (j', d') → g7 pj j h → g3 pd d h → g_P j 0 = some pd → q_E (m_X7_openAll_42 gk2 h pj x1 s0) (fun x => g7 pj j' (x) ∧ g3 pd d' (x) ∧ g_P j' = g_P j ∧ g_P d' = g_P d ∧ ∀ a, ¬ (f7 pj a ∨ f3 pd a) → (x) a = h a) := by
  intro h j d x1 s0 hm Gj Gd Ed
  unfold t_X7_openAll_42 at hm
  unfold m_X7_openAll_42
  have FR : ∀ a, ¬ (f7 pj a ∨ f3 pd a) → h a = h a := fun _ _ => rfl
  have Qj : g_P j = g_P j := rfl
  have Qd : g_P d = g_P d := rfl
  refine e_if hm (fun _ hm => ?_) (fun _ hm => ?_)
  · have hq0 := Option.some.inj hm
    clear hm
    obtain ⟨rfl, rfl⟩ := Prod.mk.inj hq0
    exact ⟨_, rfl, Gj, Gd, Qj, Qd, FR⟩
  · refine e_bd (gi7_7 Gj) ?_
    refine e_if hm (fun _ hm => ?_) (fun _ hm => ?_)
    · refine e_bd (gi7_7 Gj) ?_
      refine e_pi (pi7_7 _ Gj) (fun h7 Gj F => ?_)
      have Gd := fr3 Gd (fun a ha => F a (fun hb => Djd _ hb ha))
      have FR := fun a na => (F a (fun hb => na (Or.inl hb))).trans (FR a na)
      obtain ⟨j2, e8, hm⟩ := q_b hm
      have Gc := Gj
      obtain ⟨h9, e9, Gj, Rj, F⟩ := l_X7_hold _ _ _ _ e8 Gj  
      have Qj := Rj.trans Qj
      refine e_bd ((ca7 Gc).trans e9) ?_
      have Gd := fr3 Gd (fun a ha => F a (fun hb => Djd _ hb ha))
      have FR := fun a na => (F a (fun hb => na (Or.inl hb))).trans (FR a na)
      refine e_bd (gp7_0 Gj ((congrFun Qj 0).trans Ed)) ?_
      obtain ⟨d3, e8, hm⟩ := q_b hm
      have Gc := Gd
      obtain ⟨h12, e9, Gd, Rd, F⟩ := l_X3_next _ _ _ e8 Gd  
      have Qd := Rd.trans Qd
      refine e_bd ((ca3 Gc).trans e9) ?_
      have Gj := fr7 Gj (fun a ha => F a (fun hb => Djd _ ha hb))
      have FR := fun a na => (F a (fun hb => na (Or.inr (hb)))).trans (FR a na)
      obtain ⟨x9, e9, Gj, Gd, Rj, Rd, F⟩ := hk2 _ _ _ _ hm Gj Gd ((congrFun Qj 0).trans Ed)
      exact ⟨x9, e9, Gj, Gd, Rj.trans Qj, Rd.trans Qd, fun a na => (F a na).trans (FR a na)⟩
    · refine e_bd (gp7_0 Gj ((congrFun Qj 0).trans Ed)) ?_
      obtain ⟨⟨r14, d4⟩, e8, hm⟩ := q_b hm
      have Gc := Gd
      obtain ⟨⟨r9, h15⟩, e9, e7, Gd, Rd, F⟩ := l_X3_refuse _ _ _ _ e8 Gd  
      dsimp only at e7 Gd F
      subst e7
      have Qd := Rd.trans Qd
      refine e_bd ((ca3 Gc).trans e9) ?_
      have Gj := fr7 Gj (fun a ha => F a (fun hb => Djd _ ha hb))
      have FR := fun a na => (F a (fun hb => na (Or.inr (hb)))).trans (FR a na)
      have hq0 := Option.some.inj hm
      clear hm
      obtain ⟨rfl, rfl⟩ := Prod.mk.inj hq0
      exact ⟨_, rfl, Gj, Gd, Qj, Qd, FR⟩
def t_X7_openAll_2  : Nat → g_S → g_S → Int32 → Option (g_S × g_S)
  | 0, _, _, _ => none
  | n + 1, j, d, x1 =>
    if (10 : Int32) < x1 then
      some (j, d)
    else
      let v2 := g_I d 6
      if v2 = (91 : Int32) then
        t_X7_openAll_42 (t_X7_openAll_2 n) j d x1 ((1 : Int32))
      else
        let v4 := g_I d 6
        if v4 = (716 : Int32) then
          t_X7_openAll_42 (t_X7_openAll_2 n) j d x1 ((4 : Int32))
        else
          t_X7_openAll_42 (t_X7_openAll_2 n) j d x1 ((0 : Int32))
set_option maxRecDepth 20000 in
theorem l_X7_openAll_2 (pj pd : Nat) (Djd : ∀ a, f7 pj a → f3 pd a → False) {j' d' : g_S} : ∀ (n : Nat) (h : q_H) (j d : g_S) (x1 : Int32), t_X7_openAll_2 n j d x1 = some (j', d') → g7 pj j h → g3 pd d h → g_P j 0 = some pd → q_E (m_X7_openAll_2 n h pj x1) (fun x => g7 pj j' (x) ∧ g3 pd d' (x) ∧ g_P j' = g_P j ∧ g_P d' = g_P d ∧ ∀ a, ¬ (f7 pj a ∨ f3 pd a) → (x) a = h a) := by
  intro n
  induction n with
  | zero => intro h j d x1 hm Gj Gd Ed; cases hm
  | succ n ih =>
    intro h j d x1 hm Gj Gd Ed
    unfold t_X7_openAll_2 at hm
    unfold m_X7_openAll_2
    have FR : ∀ a, ¬ (f7 pj a ∨ f3 pd a) → h a = h a := fun _ _ => rfl
    have Qj : g_P j = g_P j := rfl
    have Qd : g_P d = g_P d := rfl
    refine e_if hm (fun _ hm => ?_) (fun _ hm => ?_)
    · have hq0 := Option.some.inj hm
      clear hm
      obtain ⟨rfl, rfl⟩ := Prod.mk.inj hq0
      exact ⟨_, rfl, Gj, Gd, Qj, Qd, FR⟩
    · refine e_bd (gp7_0 Gj ((congrFun Qj 0).trans Ed)) ?_
      refine e_bd (gi3_6 Gd) ?_
      refine e_if hm (fun _ hm => ?_) (fun _ hm => ?_)
      · obtain ⟨x9, e9, Gj, Gd, Rj, Rd, F⟩ := l_X7_openAll_42 pj pd Djd ih _ _ _ _ _ hm Gj Gd ((congrFun Qj 0).trans Ed)
        exact ⟨x9, e9, Gj, Gd, Rj.trans Qj, Rd.trans Qd, fun a na => (F a na).trans (FR a na)⟩
      · refine e_bd (gp7_0 Gj ((congrFun Qj 0).trans Ed)) ?_
        refine e_bd (gi3_6 Gd) ?_
        refine e_if hm (fun _ hm => ?_) (fun _ hm => ?_)
        · obtain ⟨x9, e9, Gj, Gd, Rj, Rd, F⟩ := l_X7_openAll_42 pj pd Djd ih _ _ _ _ _ hm Gj Gd ((congrFun Qj 0).trans Ed)
          exact ⟨x9, e9, Gj, Gd, Rj.trans Qj, Rd.trans Qd, fun a na => (F a na).trans (FR a na)⟩
        · obtain ⟨x9, e9, Gj, Gd, Rj, Rd, F⟩ := l_X7_openAll_42 pj pd Djd ih _ _ _ _ _ hm Gj Gd ((congrFun Qj 0).trans Ed)
          exact ⟨x9, e9, Gj, Gd, Rj.trans Qj, Rd.trans Qd, fun a na => (F a na).trans (FR a na)⟩
def t_X7_openAll (j d : g_S) : Option (g_S × g_S) :=
  t_X7_openAll_2 q_fu j d ((0 : Int32))
set_option maxRecDepth 20000 in
theorem l_X7_openAll (h : q_H) (pj pd : Nat) (j d : g_S) {j' d' : g_S} (hm : t_X7_openAll j d = some (j', d')) (Gj : g7 pj j h) (Gd : g3 pd d h) (Ed : g_P j 0 = some pd) (Djd : ∀ a, f7 pj a → f3 pd a → False) : q_E (m_X7_openAll h pj) (fun x => g7 pj j' (x) ∧ g3 pd d' (x) ∧ g_P j' = g_P j ∧ g_P d' = g_P d ∧ ∀ a, ¬ (f7 pj a ∨ f3 pd a) → (x) a = h a) := by
  unfold t_X7_openAll at hm
  unfold m_X7_openAll
  have FR : ∀ a, ¬ (f7 pj a ∨ f3 pd a) → h a = h a := fun _ _ => rfl
  have Qj : g_P j = g_P j := rfl
  have Qd : g_P d = g_P d := rfl
  obtain ⟨x9, e9, Gj, Gd, Rj, Rd, F⟩ := l_X7_openAll_2 pj pd Djd _ _ _ _ _ hm Gj Gd ((congrFun Qj 0).trans Ed)
  exact ⟨x9, e9, Gj, Gd, Rj.trans Qj, Rd.trans Qd, fun a na => (F a na).trans (FR a na)⟩
def t_X7_readComparison_60 (j d : g_S) (x1 : Int32) : Option (g_S × g_S) :=
  let v19 := g_I d 8
  if v19 = 0 then
    let v20 := g_I j 8
    let j5 := g_si j 8 (v20 + (1 : Int32))
    (t_X3_next d).bind fun d6 =>
    (t_X7_readSum j5 d6).bind fun (j7, d8) =>
    (t_X7_write j7 x1 ((0 : Int32))).bind fun j9 =>
    some (j9, d8)
  else
    some (j, d)
set_option maxRecDepth 20000 in
theorem l_X7_readComparison_60 (pj pd : Nat) (Djd : ∀ a, f7 pj a → f3 pd a → False) {j' d' : g_S} : ∀ (h : q_H) (j d : g_S) (x1 : Int32), t_X7_readComparison_60 j d x1 = some (j', d') → g7 pj j h → g3 pd d h → g_P j 0 = some pd → q_E (m_X7_readComparison_60 h pj x1) (fun x => g7 pj j' (x) ∧ g3 pd d' (x) ∧ g_P j' = g_P j ∧ g_P d' = g_P d ∧ ∀ a, ¬ (f7 pj a ∨ f3 pd a) → (x) a = h a) := by
  intro h j d x1 hm Gj Gd Ed
  unfold t_X7_readComparison_60 at hm
  unfold m_X7_readComparison_60
  have FR : ∀ a, ¬ (f7 pj a ∨ f3 pd a) → h a = h a := fun _ _ => rfl
  have Qj : g_P j = g_P j := rfl
  have Qd : g_P d = g_P d := rfl
  refine e_bd (gp7_0 Gj ((congrFun Qj 0).trans Ed)) ?_
  refine e_bd (gi3_8 Gd) ?_
  refine e_if hm (fun _ hm => ?_) (fun _ hm => ?_)
  · refine e_bd (gi7_8 Gj) ?_
    refine e_pi (pi7_8 _ Gj) (fun h21 Gj F => ?_)
    have Gd := fr3 Gd (fun a ha => F a (fun hb => Djd _ hb ha))
    have FR := fun a na => (F a (fun hb => na (Or.inl hb))).trans (FR a na)
    refine e_bd (gp7_0 Gj ((congrFun Qj 0).trans Ed)) ?_
    obtain ⟨d6, e8, hm⟩ := q_b hm
    have Gc := Gd
    obtain ⟨h24, e9, Gd, Rd, F⟩ := l_X3_next _ _ _ e8 Gd  
    have Qd := Rd.trans Qd
    refine e_bd ((ca3 Gc).trans e9) ?_
    have Gj := fr7 Gj (fun a ha => F a (fun hb => Djd _ ha hb))
    have FR := fun a na => (F a (fun hb => na (Or.inr (hb)))).trans (FR a na)
    obtain ⟨⟨j7, d8⟩, e8, hm⟩ := q_b hm
    have Gc := Gj
    obtain ⟨h26, e9, Gj, Gd, Rj, Rd, F⟩ := l_X7_readSum _ _ _ _ _ e8 Gj Gd ((congrFun Qj 0).trans Ed) Djd
    have Qj := Rj.trans Qj
    have Qd := Rd.trans Qd
    refine e_bd ((ca7 Gc).trans e9) ?_
    have FR := fun a na => (F a (fun hq => hq.elim (fun hb => na (Or.inl hb)) (fun hb => na (Or.inr (hb))))).trans (FR a na)
    obtain ⟨j9, e8, hm⟩ := q_b hm
    have Gc := Gj
    obtain ⟨h28, e9, Gj, Rj, F⟩ := l_X7_write _ _ _ _ _ e8 Gj  
    have Qj := Rj.trans Qj
    refine e_bd ((ca7 Gc).trans e9) ?_
    have Gd := fr3 Gd (fun a ha => F a (fun hb => Djd _ hb ha))
    have FR := fun a na => (F a (fun hb => na (Or.inl hb))).trans (FR a na)
    have hq0 := Option.some.inj hm
    clear hm
    obtain ⟨rfl, rfl⟩ := Prod.mk.inj hq0
    exact ⟨_, rfl, Gj, Gd, Qj, Qd, FR⟩
  · have hq0 := Option.some.inj hm
    clear hm
    obtain ⟨rfl, rfl⟩ := Prod.mk.inj hq0
    exact ⟨_, rfl, Gj, Gd, Qj, Qd, FR⟩
def t_X7_readComparison (j d : g_S) : Option (g_S × g_S) :=
  let v2 := g_I d 8
  if v2 = 0 then
    (t_X7_readSum j d).bind fun (j1, d2) =>
    let v6 := g_I d2 6
    (m_X6_comparison v6).bind fun r7 =>
    if r7 = 0 then
      (t_X3_refuse d2 ((0 : Int32))).bind fun (r15, d3) =>
      t_X7_readComparison_60 j1 d3 r7
    else
      let v9 := g_I j1 8
      if v9 < (60 : Int32) then
        t_X7_readComparison_60 j1 d2 r7
      else
        (t_X3_refuse d2 ((3 : Int32))).bind fun (r11, d4) =>
        t_X7_readComparison_60 j1 d4 r7
  else
    some (j, d)
set_option maxRecDepth 20000 in
theorem l_X7_readComparison (h : q_H) (pj pd : Nat) (j d : g_S) {j' d' : g_S} (hm : t_X7_readComparison j d = some (j', d')) (Gj : g7 pj j h) (Gd : g3 pd d h) (Ed : g_P j 0 = some pd) (Djd : ∀ a, f7 pj a → f3 pd a → False) : q_E (m_X7_readComparison h pj) (fun x => g7 pj j' (x) ∧ g3 pd d' (x) ∧ g_P j' = g_P j ∧ g_P d' = g_P d ∧ ∀ a, ¬ (f7 pj a ∨ f3 pd a) → (x) a = h a) := by
  unfold t_X7_readComparison at hm
  unfold m_X7_readComparison
  have FR : ∀ a, ¬ (f7 pj a ∨ f3 pd a) → h a = h a := fun _ _ => rfl
  have Qj : g_P j = g_P j := rfl
  have Qd : g_P d = g_P d := rfl
  refine e_bd (gp7_0 Gj ((congrFun Qj 0).trans Ed)) ?_
  refine e_bd (gi3_8 Gd) ?_
  refine e_if hm (fun _ hm => ?_) (fun _ hm => ?_)
  · obtain ⟨⟨j1, d2⟩, e8, hm⟩ := q_b hm
    have Gc := Gj
    obtain ⟨h4, e9, Gj, Gd, Rj, Rd, F⟩ := l_X7_readSum _ _ _ _ _ e8 Gj Gd ((congrFun Qj 0).trans Ed) Djd
    have Qj := Rj.trans Qj
    have Qd := Rd.trans Qd
    refine e_bd ((ca7 Gc).trans e9) ?_
    have FR := fun a na => (F a (fun hq => hq.elim (fun hb => na (Or.inl hb)) (fun hb => na (Or.inr (hb))))).trans (FR a na)
    refine e_bd (gp7_0 Gj ((congrFun Qj 0).trans Ed)) ?_
    refine e_bd (gi3_6 Gd) ?_
    refine e_oo hm (fun r7 hm => ?_)
    refine e_if hm (fun _ hm => ?_) (fun _ hm => ?_)
    · refine e_bd (gp7_0 Gj ((congrFun Qj 0).trans Ed)) ?_
      obtain ⟨⟨r15, d3⟩, e8, hm⟩ := q_b hm
      have Gc := Gd
      obtain ⟨⟨r9, h16⟩, e9, e7, Gd, Rd, F⟩ := l_X3_refuse _ _ _ _ e8 Gd  
      dsimp only at e7 Gd F
      subst e7
      have Qd := Rd.trans Qd
      refine e_bd ((ca3 Gc).trans e9) ?_
      have Gj := fr7 Gj (fun a ha => F a (fun hb => Djd _ ha hb))
      have FR := fun a na => (F a (fun hb => na (Or.inr (hb)))).trans (FR a na)
      obtain ⟨x9, e9, Gj, Gd, Rj, Rd, F⟩ := l_X7_readComparison_60 pj pd Djd _ _ _ _ hm Gj Gd ((congrFun Qj 0).trans Ed)
      exact ⟨x9, e9, Gj, Gd, Rj.trans Qj, Rd.trans Qd, fun a na => (F a na).trans (FR a na)⟩
    · refine e_bd (gi7_8 Gj) ?_
      refine e_if hm (fun _ hm => ?_) (fun _ hm => ?_)
      · obtain ⟨x9, e9, Gj, Gd, Rj, Rd, F⟩ := l_X7_readComparison_60 pj pd Djd _ _ _ _ hm Gj Gd ((congrFun Qj 0).trans Ed)
        exact ⟨x9, e9, Gj, Gd, Rj.trans Qj, Rd.trans Qd, fun a na => (F a na).trans (FR a na)⟩
      · refine e_bd (gp7_0 Gj ((congrFun Qj 0).trans Ed)) ?_
        obtain ⟨⟨r11, d4⟩, e8, hm⟩ := q_b hm
        have Gc := Gd
        obtain ⟨⟨r9, h12⟩, e9, e7, Gd, Rd, F⟩ := l_X3_refuse _ _ _ _ e8 Gd  
        dsimp only at e7 Gd F
        subst e7
        have Qd := Rd.trans Qd
        refine e_bd ((ca3 Gc).trans e9) ?_
        have Gj := fr7 Gj (fun a ha => F a (fun hb => Djd _ ha hb))
        have FR := fun a na => (F a (fun hb => na (Or.inr (hb)))).trans (FR a na)
        obtain ⟨x9, e9, Gj, Gd, Rj, Rd, F⟩ := l_X7_readComparison_60 pj pd Djd _ _ _ _ hm Gj Gd ((congrFun Qj 0).trans Ed)
        exact ⟨x9, e9, Gj, Gd, Rj.trans Qj, Rd.trans Qd, fun a na => (F a na).trans (FR a na)⟩
  · have hq0 := Option.some.inj hm
    clear hm
    obtain ⟨rfl, rfl⟩ := Prod.mk.inj hq0
    exact ⟨_, rfl, Gj, Gd, Qj, Qd, FR⟩
def t_X7_settle_49 (k0 : g_S → Int32 → Option g_S) (j : g_S) (x1 : Int32) (x2 : Int32) : Option g_S :=
  (t_X7_write j x2 ((0 : Int32))).bind fun j2 =>
  let v12 := g_I j2 6
  let j3 := g_si j2 6 (v12 - (1 : Int32))
  k0 j3 x1
set_option maxRecDepth 20000 in
theorem l_X7_settle_49 (pj : Nat) {j' : g_S} {k0 : g_S → Int32 → Option g_S} {gk0 : q_H → Nat → Int32 → Option q_H} (hk0 : ∀ (h : q_H) (j : g_S) (x1 : Int32), k0 j x1 = some j' → g7 pj j h → q_E (gk0 h pj x1) (fun x => g7 pj j' (x) ∧ g_P j' = g_P j ∧ ∀ a, ¬ (f7 pj a) → (x) a = h a)) : ∀ (h : q_H) (j : g_S) (x1 : Int32) (x2 : Int32), t_X7_settle_49 k0 j x1 x2 = some j' → g7 pj j h → q_E (m_X7_settle_49 gk0 h pj x1 x2) (fun x => g7 pj j' (x) ∧ g_P j' = g_P j ∧ ∀ a, ¬ (f7 pj a) → (x) a = h a) := by
  intro h j x1 x2 hm Gj 
  unfold t_X7_settle_49 at hm
  unfold m_X7_settle_49
  have FR : ∀ a, ¬ (f7 pj a) → h a = h a := fun _ _ => rfl
  have Qj : g_P j = g_P j := rfl
  obtain ⟨j2, e8, hm⟩ := q_b hm
  have Gc := Gj
  obtain ⟨h11, e9, Gj, Rj, F⟩ := l_X7_write _ _ _ _ _ e8 Gj  
  have Qj := Rj.trans Qj
  refine e_bd ((ca7 Gc).trans e9) ?_
  have FR := fun a na => (F a (fun hb => na (hb))).trans (FR a na)
  refine e_bd (gi7_6 Gj) ?_
  refine e_pi (pi7_6 _ Gj) (fun h13 Gj F => ?_)
  have FR := fun a na => (F a (fun hb => na (hb))).trans (FR a na)
  obtain ⟨x9, e9, Gj, Rj, F⟩ := hk0 _ _ _ hm Gj 
  exact ⟨x9, e9, Gj, Rj.trans Qj, fun a na => (F a na).trans (FR a na)⟩
def t_X7_settle_0  : Nat → g_S → Int32 → Option g_S
  | 0, _, _ => none
  | n + 1, j, x1 =>
    let v1 := g_I j 6
    if v1 ≤ 0 then
      some j
    else
      let v3 := g_I j 6
      (t_ai 40 (g_A j 5) ((v3 - (1 : Int32)))).bind fun v4 =>
      if v4 < x1 then
        some j
      else
        let v6 := g_I j 6
        (t_ai 40 (g_A j 5) ((v6 - (1 : Int32)))).bind fun v7 =>
        if v7 = (4 : Int32) then
          let v8 := g_I j 7
          let j1 := g_si j 7 (v8 - (1 : Int32))
          t_X7_settle_49 (t_X7_settle_0 n) j1 x1 v7
        else
          t_X7_settle_49 (t_X7_settle_0 n) j x1 v7
set_option maxRecDepth 20000 in
theorem l_X7_settle_0 (pj : Nat) {j' : g_S} : ∀ (n : Nat) (h : q_H) (j : g_S) (x1 : Int32), t_X7_settle_0 n j x1 = some j' → g7 pj j h → q_E (m_X7_settle_0 n h pj x1) (fun x => g7 pj j' (x) ∧ g_P j' = g_P j ∧ ∀ a, ¬ (f7 pj a) → (x) a = h a) := by
  intro n
  induction n with
  | zero => intro h j x1 hm Gj ; cases hm
  | succ n ih =>
    intro h j x1 hm Gj 
    unfold t_X7_settle_0 at hm
    unfold m_X7_settle_0
    have FR : ∀ a, ¬ (f7 pj a) → h a = h a := fun _ _ => rfl
    have Qj : g_P j = g_P j := rfl
    refine e_bd (gi7_6 Gj) ?_
    refine e_if hm (fun _ hm => ?_) (fun _ hm => ?_)
    · obtain rfl := Option.some.inj hm
      exact ⟨_, rfl, Gj, Qj, FR⟩
    · refine e_bd (gn7_5 Gj) ?_
      refine e_bd (gi7_6 Gj) ?_
      refine e_eq (ai7_5 Gj _) hm (fun v4 hm => ?_)
      refine e_if hm (fun _ hm => ?_) (fun _ hm => ?_)
      · obtain rfl := Option.some.inj hm
        exact ⟨_, rfl, Gj, Qj, FR⟩
      · refine e_bd (gn7_5 Gj) ?_
        refine e_bd (gi7_6 Gj) ?_
        refine e_eq (ai7_5 Gj _) hm (fun v7 hm => ?_)
        refine e_if hm (fun _ hm => ?_) (fun _ hm => ?_)
        · refine e_bd (gi7_7 Gj) ?_
          refine e_pi (pi7_7 _ Gj) (fun h9 Gj F => ?_)
          have FR := fun a na => (F a (fun hb => na (hb))).trans (FR a na)
          obtain ⟨x9, e9, Gj, Rj, F⟩ := l_X7_settle_49 pj ih _ _ _ _ hm Gj 
          exact ⟨x9, e9, Gj, Rj.trans Qj, fun a na => (F a na).trans (FR a na)⟩
        · obtain ⟨x9, e9, Gj, Rj, F⟩ := l_X7_settle_49 pj ih _ _ _ _ hm Gj 
          exact ⟨x9, e9, Gj, Rj.trans Qj, fun a na => (F a na).trans (FR a na)⟩
def t_X7_settle (j : g_S) (a1 : Int32) : Option g_S :=
  t_X7_settle_0 q_fu j a1
set_option maxRecDepth 20000 in
theorem l_X7_settle (h : q_H) (pj : Nat) (j : g_S) (a1 : Int32) {j' : g_S} (hm : t_X7_settle j a1 = some j') (Gj : g7 pj j h) : q_E (m_X7_settle h pj a1) (fun x => g7 pj j' (x) ∧ g_P j' = g_P j ∧ ∀ a, ¬ (f7 pj a) → (x) a = h a) := by
  unfold t_X7_settle at hm
  unfold m_X7_settle
  have FR : ∀ a, ¬ (f7 pj a) → h a = h a := fun _ _ => rfl
  have Qj : g_P j = g_P j := rfl
  obtain ⟨x9, e9, Gj, Rj, F⟩ := l_X7_settle_0 pj _ _ _ _ hm Gj 
  exact ⟨x9, e9, Gj, Rj.trans Qj, fun a na => (F a na).trans (FR a na)⟩
def t_X7_closeAll_2  : Nat → g_S → g_S → Int32 → Option (g_S × g_S)
  | 0, _, _, _ => none
  | n + 1, j, d, x1 =>
    if (10 : Int32) < x1 then
      some (j, d)
    else
      let v2 := g_I d 8
      if v2 = 0 then
        let v4 := g_I d 6
        if v4 = (93 : Int32) then
          (t_X7_settle j ((2 : Int32))).bind fun j1 =>
          let v7 := g_I j1 6
          if v7 = 0 then
            some (j1, d)
          else
            let v8 := g_I j1 6
            let j2 := g_si j1 6 (v8 - (1 : Int32))
            let v10 := g_I j2 7
            let j3 := g_si j2 7 (v10 - (1 : Int32))
            (t_X3_next d).bind fun d4 =>
            t_X7_closeAll_2 n j3 d4 ((x1 + (1 : Int32)))
        else
          some (j, d)
      else
        some (j, d)
set_option maxRecDepth 20000 in
theorem l_X7_closeAll_2 (pj pd : Nat) (Djd : ∀ a, f7 pj a → f3 pd a → False) {j' d' : g_S} : ∀ (n : Nat) (h : q_H) (j d : g_S) (x1 : Int32), t_X7_closeAll_2 n j d x1 = some (j', d') → g7 pj j h → g3 pd d h → g_P j 0 = some pd → q_E (m_X7_closeAll_2 n h pj x1) (fun x => g7 pj j' (x) ∧ g3 pd d' (x) ∧ g_P j' = g_P j ∧ g_P d' = g_P d ∧ ∀ a, ¬ (f7 pj a ∨ f3 pd a) → (x) a = h a) := by
  intro n
  induction n with
  | zero => intro h j d x1 hm Gj Gd Ed; cases hm
  | succ n ih =>
    intro h j d x1 hm Gj Gd Ed
    unfold t_X7_closeAll_2 at hm
    unfold m_X7_closeAll_2
    have FR : ∀ a, ¬ (f7 pj a ∨ f3 pd a) → h a = h a := fun _ _ => rfl
    have Qj : g_P j = g_P j := rfl
    have Qd : g_P d = g_P d := rfl
    refine e_if hm (fun _ hm => ?_) (fun _ hm => ?_)
    · have hq0 := Option.some.inj hm
      clear hm
      obtain ⟨rfl, rfl⟩ := Prod.mk.inj hq0
      exact ⟨_, rfl, Gj, Gd, Qj, Qd, FR⟩
    · refine e_bd (gp7_0 Gj ((congrFun Qj 0).trans Ed)) ?_
      refine e_bd (gi3_8 Gd) ?_
      refine e_if hm (fun _ hm => ?_) (fun _ hm => ?_)
      · refine e_bd (gp7_0 Gj ((congrFun Qj 0).trans Ed)) ?_
        refine e_bd (gi3_6 Gd) ?_
        refine e_if hm (fun _ hm => ?_) (fun _ hm => ?_)
        · obtain ⟨j1, e8, hm⟩ := q_b hm
          have Gc := Gj
          obtain ⟨h6, e9, Gj, Rj, F⟩ := l_X7_settle _ _ _ _ e8 Gj  
          have Qj := Rj.trans Qj
          refine e_bd ((ca7 Gc).trans e9) ?_
          have Gd := fr3 Gd (fun a ha => F a (fun hb => Djd _ hb ha))
          have FR := fun a na => (F a (fun hb => na (Or.inl hb))).trans (FR a na)
          refine e_bd (gi7_6 Gj) ?_
          refine e_if hm (fun _ hm => ?_) (fun _ hm => ?_)
          · have hq0 := Option.some.inj hm
            clear hm
            obtain ⟨rfl, rfl⟩ := Prod.mk.inj hq0
            exact ⟨_, rfl, Gj, Gd, Qj, Qd, FR⟩
          · refine e_bd (gi7_6 Gj) ?_
            refine e_pi (pi7_6 _ Gj) (fun h9 Gj F => ?_)
            have Gd := fr3 Gd (fun a ha => F a (fun hb => Djd _ hb ha))
            have FR := fun a na => (F a (fun hb => na (Or.inl hb))).trans (FR a na)
            refine e_bd (gi7_7 Gj) ?_
            refine e_pi (pi7_7 _ Gj) (fun h11 Gj F => ?_)
            have Gd := fr3 Gd (fun a ha => F a (fun hb => Djd _ hb ha))
            have FR := fun a na => (F a (fun hb => na (Or.inl hb))).trans (FR a na)
            refine e_bd (gp7_0 Gj ((congrFun Qj 0).trans Ed)) ?_
            obtain ⟨d4, e8, hm⟩ := q_b hm
            have Gc := Gd
            obtain ⟨h14, e9, Gd, Rd, F⟩ := l_X3_next _ _ _ e8 Gd  
            have Qd := Rd.trans Qd
            refine e_bd ((ca3 Gc).trans e9) ?_
            have Gj := fr7 Gj (fun a ha => F a (fun hb => Djd _ ha hb))
            have FR := fun a na => (F a (fun hb => na (Or.inr (hb)))).trans (FR a na)
            obtain ⟨x9, e9, Gj, Gd, Rj, Rd, F⟩ := ih _ _ _ _ hm Gj Gd ((congrFun Qj 0).trans Ed)
            exact ⟨x9, e9, Gj, Gd, Rj.trans Qj, Rd.trans Qd, fun a na => (F a na).trans (FR a na)⟩
        · have hq0 := Option.some.inj hm
          clear hm
          obtain ⟨rfl, rfl⟩ := Prod.mk.inj hq0
          exact ⟨_, rfl, Gj, Gd, Qj, Qd, FR⟩
      · have hq0 := Option.some.inj hm
        clear hm
        obtain ⟨rfl, rfl⟩ := Prod.mk.inj hq0
        exact ⟨_, rfl, Gj, Gd, Qj, Qd, FR⟩
def t_X7_closeAll (j d : g_S) : Option (g_S × g_S) :=
  t_X7_closeAll_2 q_fu j d ((0 : Int32))
set_option maxRecDepth 20000 in
theorem l_X7_closeAll (h : q_H) (pj pd : Nat) (j d : g_S) {j' d' : g_S} (hm : t_X7_closeAll j d = some (j', d')) (Gj : g7 pj j h) (Gd : g3 pd d h) (Ed : g_P j 0 = some pd) (Djd : ∀ a, f7 pj a → f3 pd a → False) : q_E (m_X7_closeAll h pj) (fun x => g7 pj j' (x) ∧ g3 pd d' (x) ∧ g_P j' = g_P j ∧ g_P d' = g_P d ∧ ∀ a, ¬ (f7 pj a ∨ f3 pd a) → (x) a = h a) := by
  unfold t_X7_closeAll at hm
  unfold m_X7_closeAll
  have FR : ∀ a, ¬ (f7 pj a ∨ f3 pd a) → h a = h a := fun _ _ => rfl
  have Qj : g_P j = g_P j := rfl
  have Qd : g_P d = g_P d := rfl
  obtain ⟨x9, e9, Gj, Gd, Rj, Rd, F⟩ := l_X7_closeAll_2 pj pd Djd _ _ _ _ _ hm Gj Gd ((congrFun Qj 0).trans Ed)
  exact ⟨x9, e9, Gj, Gd, Rj.trans Qj, Rd.trans Qd, fun a na => (F a na).trans (FR a na)⟩
def t_X7_readTest_106 (j d : g_S) : Option (g_S × g_S) :=
  (t_X7_settle j ((2 : Int32))).bind fun j12 =>
  let v24 := g_I j12 6
  if v24 = 0 then
    some (j12, d)
  else
    (t_X3_refuse d ((0 : Int32))).bind fun (r26, d13) =>
    some (j12, d13)
set_option maxRecDepth 20000 in
theorem l_X7_readTest_106 (pj pd : Nat) (Djd : ∀ a, f7 pj a → f3 pd a → False) {j' d' : g_S} : ∀ (h : q_H) (j d : g_S), t_X7_readTest_106 j d = some (j', d') → g7 pj j h → g3 pd d h → g_P j 0 = some pd → q_E (m_X7_readTest_106 h pj) (fun x => g7 pj j' (x) ∧ g3 pd d' (x) ∧ g_P j' = g_P j ∧ g_P d' = g_P d ∧ ∀ a, ¬ (f7 pj a ∨ f3 pd a) → (x) a = h a) := by
  intro h j d  hm Gj Gd Ed
  unfold t_X7_readTest_106 at hm
  unfold m_X7_readTest_106
  have FR : ∀ a, ¬ (f7 pj a ∨ f3 pd a) → h a = h a := fun _ _ => rfl
  have Qj : g_P j = g_P j := rfl
  have Qd : g_P d = g_P d := rfl
  obtain ⟨j12, e8, hm⟩ := q_b hm
  have Gc := Gj
  obtain ⟨h23, e9, Gj, Rj, F⟩ := l_X7_settle _ _ _ _ e8 Gj  
  have Qj := Rj.trans Qj
  refine e_bd ((ca7 Gc).trans e9) ?_
  have Gd := fr3 Gd (fun a ha => F a (fun hb => Djd _ hb ha))
  have FR := fun a na => (F a (fun hb => na (Or.inl hb))).trans (FR a na)
  refine e_bd (gi7_6 Gj) ?_
  refine e_if hm (fun _ hm => ?_) (fun _ hm => ?_)
  · have hq0 := Option.some.inj hm
    clear hm
    obtain ⟨rfl, rfl⟩ := Prod.mk.inj hq0
    exact ⟨_, rfl, Gj, Gd, Qj, Qd, FR⟩
  · refine e_bd (gp7_0 Gj ((congrFun Qj 0).trans Ed)) ?_
    obtain ⟨⟨r26, d13⟩, e8, hm⟩ := q_b hm
    have Gc := Gd
    obtain ⟨⟨r9, h27⟩, e9, e7, Gd, Rd, F⟩ := l_X3_refuse _ _ _ _ e8 Gd  
    dsimp only at e7 Gd F
    subst e7
    have Qd := Rd.trans Qd
    refine e_bd ((ca3 Gc).trans e9) ?_
    have Gj := fr7 Gj (fun a ha => F a (fun hb => Djd _ ha hb))
    have FR := fun a na => (F a (fun hb => na (Or.inr (hb)))).trans (FR a na)
    have hq0 := Option.some.inj hm
    clear hm
    obtain ⟨rfl, rfl⟩ := Prod.mk.inj hq0
    exact ⟨_, rfl, Gj, Gd, Qj, Qd, FR⟩
def t_X7_readTest_65 (k12 : g_S → g_S → Int32 → Option (g_S × g_S)) (j d : g_S) (x1 : Int32) (s0 : Int32) : Option (g_S × g_S) :=
  let v14 := g_I d 8
  if v14 = 0 then
    if s0 = 0 then
      t_X7_readTest_106 j d
    else
      (t_X7_settle j s0).bind fun j9 =>
      (t_X7_hold j9 s0).bind fun j10 =>
      (t_X3_next d).bind fun d11 =>
      k12 j10 d11 ((x1 + (1 : Int32)))
  else
    t_X7_readTest_106 j d
set_option maxRecDepth 20000 in
theorem l_X7_readTest_65 (pj pd : Nat) (Djd : ∀ a, f7 pj a → f3 pd a → False) {j' d' : g_S} {k12 : g_S → g_S → Int32 → Option (g_S × g_S)} {gk12 : q_H → Nat → Int32 → Option q_H} (hk12 : ∀ (h : q_H) (j d : g_S) (x1 : Int32), k12 j d x1 = some (j', d') → g7 pj j h → g3 pd d h → g_P j 0 = some pd → q_E (gk12 h pj x1) (fun x => g7 pj j' (x) ∧ g3 pd d' (x) ∧ g_P j' = g_P j ∧ g_P d' = g_P d ∧ ∀ a, ¬ (f7 pj a ∨ f3 pd a) → (x) a = h a)) : ∀ (h : q_H) (j d : g_S) (x1 : Int32) (s0 : Int32), t_X7_readTest_65 k12 j d x1 s0 = some (j', d') → g7 pj j h → g3 pd d h → g_P j 0 = some pd → q_E (m_X7_readTest_65 gk12 h pj x1 s0) (fun x => g7 pj j' (x) ∧ g3 pd d' (x) ∧ g_P j' = g_P j ∧ g_P d' = g_P d ∧ ∀ a, ¬ (f7 pj a ∨ f3 pd a) → (x) a = h a) := by
  intro h j d x1 s0 hm Gj Gd Ed
  unfold t_X7_readTest_65 at hm
  unfold m_X7_readTest_65
  have FR : ∀ a, ¬ (f7 pj a ∨ f3 pd a) → h a = h a := fun _ _ => rfl
  have Qj : g_P j = g_P j := rfl
  have Qd : g_P d = g_P d := rfl
  refine e_bd (gp7_0 Gj ((congrFun Qj 0).trans Ed)) ?_
  refine e_bd (gi3_8 Gd) ?_
  refine e_if hm (fun _ hm => ?_) (fun _ hm => ?_)
  · refine e_if hm (fun _ hm => ?_) (fun _ hm => ?_)
    · obtain ⟨x9, e9, Gj, Gd, Rj, Rd, F⟩ := l_X7_readTest_106 pj pd Djd _ _ _ hm Gj Gd ((congrFun Qj 0).trans Ed)
      exact ⟨x9, e9, Gj, Gd, Rj.trans Qj, Rd.trans Qd, fun a na => (F a na).trans (FR a na)⟩
    · obtain ⟨j9, e8, hm⟩ := q_b hm
      have Gc := Gj
      obtain ⟨h16, e9, Gj, Rj, F⟩ := l_X7_settle _ _ _ _ e8 Gj  
      have Qj := Rj.trans Qj
      refine e_bd ((ca7 Gc).trans e9) ?_
      have Gd := fr3 Gd (fun a ha => F a (fun hb => Djd _ hb ha))
      have FR := fun a na => (F a (fun hb => na (Or.inl hb))).trans (FR a na)
      obtain ⟨j10, e8, hm⟩ := q_b hm
      have Gc := Gj
      obtain ⟨h18, e9, Gj, Rj, F⟩ := l_X7_hold _ _ _ _ e8 Gj  
      have Qj := Rj.trans Qj
      refine e_bd ((ca7 Gc).trans e9) ?_
      have Gd := fr3 Gd (fun a ha => F a (fun hb => Djd _ hb ha))
      have FR := fun a na => (F a (fun hb => na (Or.inl hb))).trans (FR a na)
      refine e_bd (gp7_0 Gj ((congrFun Qj 0).trans Ed)) ?_
      obtain ⟨d11, e8, hm⟩ := q_b hm
      have Gc := Gd
      obtain ⟨h21, e9, Gd, Rd, F⟩ := l_X3_next _ _ _ e8 Gd  
      have Qd := Rd.trans Qd
      refine e_bd ((ca3 Gc).trans e9) ?_
      have Gj := fr7 Gj (fun a ha => F a (fun hb => Djd _ ha hb))
      have FR := fun a na => (F a (fun hb => na (Or.inr (hb)))).trans (FR a na)
      obtain ⟨x9, e9, Gj, Gd, Rj, Rd, F⟩ := hk12 _ _ _ _ hm Gj Gd ((congrFun Qj 0).trans Ed)
      exact ⟨x9, e9, Gj, Gd, Rj.trans Qj, Rd.trans Qd, fun a na => (F a na).trans (FR a na)⟩
  · obtain ⟨x9, e9, Gj, Gd, Rj, Rd, F⟩ := l_X7_readTest_106 pj pd Djd _ _ _ hm Gj Gd ((congrFun Qj 0).trans Ed)
    exact ⟨x9, e9, Gj, Gd, Rj.trans Qj, Rd.trans Qd, fun a na => (F a na).trans (FR a na)⟩
def t_X7_readTest_12  : Nat → g_S → g_S → Int32 → Option (g_S × g_S)
  | 0, _, _, _ => none
  | n + 1, j, d, x1 =>
    if (60 : Int32) < x1 then
      t_X7_readTest_106 j d
    else
      (t_X7_openAll j d).bind fun (j3, d4) =>
      (t_X7_readComparison j3 d4).bind fun (j5, d6) =>
      (t_X7_closeAll j5 d6).bind fun (j7, d8) =>
      let v10 := g_I d8 6
      if v10 = (714 : Int32) then
        t_X7_readTest_65 (t_X7_readTest_12 n) j7 d8 x1 ((3 : Int32))
      else
        let v12 := g_I d8 6
        if v12 = (715 : Int32) then
          t_X7_readTest_65 (t_X7_readTest_12 n) j7 d8 x1 ((2 : Int32))
        else
          t_X7_readTest_65 (t_X7_readTest_12 n) j7 d8 x1 ((0 : Int32))
set_option maxRecDepth 20000 in
theorem l_X7_readTest_12 (pj pd : Nat) (Djd : ∀ a, f7 pj a → f3 pd a → False) {j' d' : g_S} : ∀ (n : Nat) (h : q_H) (j d : g_S) (x1 : Int32), t_X7_readTest_12 n j d x1 = some (j', d') → g7 pj j h → g3 pd d h → g_P j 0 = some pd → q_E (m_X7_readTest_12 n h pj x1) (fun x => g7 pj j' (x) ∧ g3 pd d' (x) ∧ g_P j' = g_P j ∧ g_P d' = g_P d ∧ ∀ a, ¬ (f7 pj a ∨ f3 pd a) → (x) a = h a) := by
  intro n
  induction n with
  | zero => intro h j d x1 hm Gj Gd Ed; cases hm
  | succ n ih =>
    intro h j d x1 hm Gj Gd Ed
    unfold t_X7_readTest_12 at hm
    unfold m_X7_readTest_12
    have FR : ∀ a, ¬ (f7 pj a ∨ f3 pd a) → h a = h a := fun _ _ => rfl
    have Qj : g_P j = g_P j := rfl
    have Qd : g_P d = g_P d := rfl
    refine e_if hm (fun _ hm => ?_) (fun _ hm => ?_)
    · obtain ⟨x9, e9, Gj, Gd, Rj, Rd, F⟩ := l_X7_readTest_106 pj pd Djd _ _ _ hm Gj Gd ((congrFun Qj 0).trans Ed)
      exact ⟨x9, e9, Gj, Gd, Rj.trans Qj, Rd.trans Qd, fun a na => (F a na).trans (FR a na)⟩
    · obtain ⟨⟨j3, d4⟩, e8, hm⟩ := q_b hm
      have Gc := Gj
      obtain ⟨h4, e9, Gj, Gd, Rj, Rd, F⟩ := l_X7_openAll _ _ _ _ _ e8 Gj Gd ((congrFun Qj 0).trans Ed) Djd
      have Qj := Rj.trans Qj
      have Qd := Rd.trans Qd
      refine e_bd ((ca7 Gc).trans e9) ?_
      have FR := fun a na => (F a (fun hq => hq.elim (fun hb => na (Or.inl hb)) (fun hb => na (Or.inr (hb))))).trans (FR a na)
      obtain ⟨⟨j5, d6⟩, e8, hm⟩ := q_b hm
      have Gc := Gj
      obtain ⟨h6, e9, Gj, Gd, Rj, Rd, F⟩ := l_X7_readComparison _ _ _ _ _ e8 Gj Gd ((congrFun Qj 0).trans Ed) Djd
      have Qj := Rj.trans Qj
      have Qd := Rd.trans Qd
      refine e_bd ((ca7 Gc).trans e9) ?_
      have FR := fun a na => (F a (fun hq => hq.elim (fun hb => na (Or.inl hb)) (fun hb => na (Or.inr (hb))))).trans (FR a na)
      obtain ⟨⟨j7, d8⟩, e8, hm⟩ := q_b hm
      have Gc := Gj
      obtain ⟨h8, e9, Gj, Gd, Rj, Rd, F⟩ := l_X7_closeAll _ _ _ _ _ e8 Gj Gd ((congrFun Qj 0).trans Ed) Djd
      have Qj := Rj.trans Qj
      have Qd := Rd.trans Qd
      refine e_bd ((ca7 Gc).trans e9) ?_
      have FR := fun a na => (F a (fun hq => hq.elim (fun hb => na (Or.inl hb)) (fun hb => na (Or.inr (hb))))).trans (FR a na)
      refine e_bd (gp7_0 Gj ((congrFun Qj 0).trans Ed)) ?_
      refine e_bd (gi3_6 Gd) ?_
      refine e_if hm (fun _ hm => ?_) (fun _ hm => ?_)
      · obtain ⟨x9, e9, Gj, Gd, Rj, Rd, F⟩ := l_X7_readTest_65 pj pd Djd ih _ _ _ _ _ hm Gj Gd ((congrFun Qj 0).trans Ed)
        exact ⟨x9, e9, Gj, Gd, Rj.trans Qj, Rd.trans Qd, fun a na => (F a na).trans (FR a na)⟩
      · refine e_bd (gp7_0 Gj ((congrFun Qj 0).trans Ed)) ?_
        refine e_bd (gi3_6 Gd) ?_
        refine e_if hm (fun _ hm => ?_) (fun _ hm => ?_)
        · obtain ⟨x9, e9, Gj, Gd, Rj, Rd, F⟩ := l_X7_readTest_65 pj pd Djd ih _ _ _ _ _ hm Gj Gd ((congrFun Qj 0).trans Ed)
          exact ⟨x9, e9, Gj, Gd, Rj.trans Qj, Rd.trans Qd, fun a na => (F a na).trans (FR a na)⟩
        · obtain ⟨x9, e9, Gj, Gd, Rj, Rd, F⟩ := l_X7_readTest_65 pj pd Djd ih _ _ _ _ _ hm Gj Gd ((congrFun Qj 0).trans Ed)
          exact ⟨x9, e9, Gj, Gd, Rj.trans Qj, Rd.trans Qd, fun a na => (F a na).trans (FR a na)⟩
def t_X7_readTest (j d : g_S) : Option (g_S × g_S) :=
  let j1 := g_si j 6 (0 : Int32)
  let j2 := g_si j1 7 (0 : Int32)
  t_X7_readTest_12 q_fu j2 d ((0 : Int32))
set_option maxRecDepth 20000 in
theorem l_X7_readTest (h : q_H) (pj pd : Nat) (j d : g_S) {j' d' : g_S} (hm : t_X7_readTest j d = some (j', d')) (Gj : g7 pj j h) (Gd : g3 pd d h) (Ed : g_P j 0 = some pd) (Djd : ∀ a, f7 pj a → f3 pd a → False) : q_E (m_X7_readTest h pj) (fun x => g7 pj j' (x) ∧ g3 pd d' (x) ∧ g_P j' = g_P j ∧ g_P d' = g_P d ∧ ∀ a, ¬ (f7 pj a ∨ f3 pd a) → (x) a = h a) := by
  unfold t_X7_readTest at hm
  unfold m_X7_readTest
  have FR : ∀ a, ¬ (f7 pj a ∨ f3 pd a) → h a = h a := fun _ _ => rfl
  have Qj : g_P j = g_P j := rfl
  have Qd : g_P d = g_P d := rfl
  refine e_pi (pi7_6 _ Gj) (fun h1 Gj F => ?_)
  have Gd := fr3 Gd (fun a ha => F a (fun hb => Djd _ hb ha))
  have FR := fun a na => (F a (fun hb => na (Or.inl hb))).trans (FR a na)
  refine e_pi (pi7_7 _ Gj) (fun h2 Gj F => ?_)
  have Gd := fr3 Gd (fun a ha => F a (fun hb => Djd _ hb ha))
  have FR := fun a na => (F a (fun hb => na (Or.inl hb))).trans (FR a na)
  obtain ⟨x9, e9, Gj, Gd, Rj, Rd, F⟩ := l_X7_readTest_12 pj pd Djd _ _ _ _ _ hm Gj Gd ((congrFun Qj 0).trans Ed)
  exact ⟨x9, e9, Gj, Gd, Rj.trans Qj, Rd.trans Qd, fun a na => (F a na).trans (FR a na)⟩
def t_X7_readClause_90 (j d : g_S) : Option (Int32 × g_S × g_S) :=
  let v30 := g_I d 8
  if v30 = 0 then
    some ((1 : Int32), j, d)
  else
    some ((0 : Int32), j, d)
set_option maxRecDepth 20000 in
theorem l_X7_readClause_90 (pj pd : Nat) (Djd : ∀ a, f7 pj a → f3 pd a → False) {r : Int32} {j' d' : g_S} : ∀ (h : q_H) (j d : g_S), t_X7_readClause_90 j d = some (r, j', d') → g7 pj j h → g3 pd d h → g_P j 0 = some pd → q_E (m_X7_readClause_90 h pj) (fun x => x.1 = r ∧ g7 pj j' (x.2) ∧ g3 pd d' (x.2) ∧ g_P j' = g_P j ∧ g_P d' = g_P d ∧ ∀ a, ¬ (f7 pj a ∨ f3 pd a) → (x.2) a = h a) := by
  intro h j d  hm Gj Gd Ed
  unfold t_X7_readClause_90 at hm
  unfold m_X7_readClause_90
  have FR : ∀ a, ¬ (f7 pj a ∨ f3 pd a) → h a = h a := fun _ _ => rfl
  have Qj : g_P j = g_P j := rfl
  have Qd : g_P d = g_P d := rfl
  refine e_bd (gp7_0 Gj ((congrFun Qj 0).trans Ed)) ?_
  refine e_bd (gi3_8 Gd) ?_
  refine e_if hm (fun _ hm => ?_) (fun _ hm => ?_)
  · have hq0 := Option.some.inj hm
    clear hm
    obtain ⟨rfl, hq1⟩ := Prod.mk.inj hq0
    obtain ⟨rfl, rfl⟩ := Prod.mk.inj hq1
    exact ⟨_, rfl, rfl, Gj, Gd, Qj, Qd, FR⟩
  · have hq0 := Option.some.inj hm
    clear hm
    obtain ⟨rfl, hq1⟩ := Prod.mk.inj hq0
    obtain ⟨rfl, rfl⟩ := Prod.mk.inj hq1
    exact ⟨_, rfl, rfl, Gj, Gd, Qj, Qd, FR⟩
def t_X7_readClause (j d : g_S) (a1 : Int32) : Option (Int32 × g_S × g_S) :=
  let v2 := g_I d 6
  if v2 = (712 : Int32) then
    if a1 < (12 : Int32) then
      (t_X7_mark j).bind fun j1 =>
      (t_X3_next d).bind fun d2 =>
      (t_X7_readSum j1 d2).bind fun (j3, d4) =>
      (t_X7_mark j3).bind fun j5 =>
      let v13 := g_I d4 8
      if v13 = 0 then
        let v15 := g_I d4 6
        if v15 = (713 : Int32) then
          (t_X3_next d4).bind fun d6 =>
          (t_X7_readTest j5 d6).bind fun (j7, d8) =>
          t_X7_readClause_90 j7 d8
        else
          t_X7_readClause_90 j5 d4
      else
        t_X7_readClause_90 j5 d4
    else
      (t_X3_refuse d ((4 : Int32))).bind fun (r22, d9) =>
      some (r22, j, d9)
  else
    (t_X3_refuse d ((0 : Int32))).bind fun (r26, d10) =>
    some (r26, j, d10)
set_option maxRecDepth 20000 in
theorem l_X7_readClause (h : q_H) (pj pd : Nat) (j d : g_S) (a1 : Int32) {r : Int32} {j' d' : g_S} (hm : t_X7_readClause j d a1 = some (r, j', d')) (Gj : g7 pj j h) (Gd : g3 pd d h) (Ed : g_P j 0 = some pd) (Djd : ∀ a, f7 pj a → f3 pd a → False) : q_E (m_X7_readClause h pj a1) (fun x => x.1 = r ∧ g7 pj j' (x.2) ∧ g3 pd d' (x.2) ∧ g_P j' = g_P j ∧ g_P d' = g_P d ∧ ∀ a, ¬ (f7 pj a ∨ f3 pd a) → (x.2) a = h a) := by
  unfold t_X7_readClause at hm
  unfold m_X7_readClause
  have FR : ∀ a, ¬ (f7 pj a ∨ f3 pd a) → h a = h a := fun _ _ => rfl
  have Qj : g_P j = g_P j := rfl
  have Qd : g_P d = g_P d := rfl
  refine e_bd (gp7_0 Gj ((congrFun Qj 0).trans Ed)) ?_
  refine e_bd (gi3_6 Gd) ?_
  refine e_if hm (fun _ hm => ?_) (fun _ hm => ?_)
  · refine e_if hm (fun _ hm => ?_) (fun _ hm => ?_)
    · obtain ⟨j1, e8, hm⟩ := q_b hm
      have Gc := Gj
      obtain ⟨h4, e9, Gj, Rj, F⟩ := l_X7_mark _ _ _ e8 Gj  
      have Qj := Rj.trans Qj
      refine e_bd ((ca7 Gc).trans e9) ?_
      have Gd := fr3 Gd (fun a ha => F a (fun hb => Djd _ hb ha))
      have FR := fun a na => (F a (fun hb => na (Or.inl hb))).trans (FR a na)
      refine e_bd (gp7_0 Gj ((congrFun Qj 0).trans Ed)) ?_
      obtain ⟨d2, e8, hm⟩ := q_b hm
      have Gc := Gd
      obtain ⟨h7, e9, Gd, Rd, F⟩ := l_X3_next _ _ _ e8 Gd  
      have Qd := Rd.trans Qd
      refine e_bd ((ca3 Gc).trans e9) ?_
      have Gj := fr7 Gj (fun a ha => F a (fun hb => Djd _ ha hb))
      have FR := fun a na => (F a (fun hb => na (Or.inr (hb)))).trans (FR a na)
      obtain ⟨⟨j3, d4⟩, e8, hm⟩ := q_b hm
      have Gc := Gj
      obtain ⟨h9, e9, Gj, Gd, Rj, Rd, F⟩ := l_X7_readSum _ _ _ _ _ e8 Gj Gd ((congrFun Qj 0).trans Ed) Djd
      have Qj := Rj.trans Qj
      have Qd := Rd.trans Qd
      refine e_bd ((ca7 Gc).trans e9) ?_
      have FR := fun a na => (F a (fun hq => hq.elim (fun hb => na (Or.inl hb)) (fun hb => na (Or.inr (hb))))).trans (FR a na)
      obtain ⟨j5, e8, hm⟩ := q_b hm
      have Gc := Gj
      obtain ⟨h11, e9, Gj, Rj, F⟩ := l_X7_mark _ _ _ e8 Gj  
      have Qj := Rj.trans Qj
      refine e_bd ((ca7 Gc).trans e9) ?_
      have Gd := fr3 Gd (fun a ha => F a (fun hb => Djd _ hb ha))
      have FR := fun a na => (F a (fun hb => na (Or.inl hb))).trans (FR a na)
      refine e_bd (gp7_0 Gj ((congrFun Qj 0).trans Ed)) ?_
      refine e_bd (gi3_8 Gd) ?_
      refine e_if hm (fun _ hm => ?_) (fun _ hm => ?_)
      · refine e_bd (gp7_0 Gj ((congrFun Qj 0).trans Ed)) ?_
        refine e_bd (gi3_6 Gd) ?_
        refine e_if hm (fun _ hm => ?_) (fun _ hm => ?_)
        · refine e_bd (gp7_0 Gj ((congrFun Qj 0).trans Ed)) ?_
          obtain ⟨d6, e8, hm⟩ := q_b hm
          have Gc := Gd
          obtain ⟨h18, e9, Gd, Rd, F⟩ := l_X3_next _ _ _ e8 Gd  
          have Qd := Rd.trans Qd
          refine e_bd ((ca3 Gc).trans e9) ?_
          have Gj := fr7 Gj (fun a ha => F a (fun hb => Djd _ ha hb))
          have FR := fun a na => (F a (fun hb => na (Or.inr (hb)))).trans (FR a na)
          obtain ⟨⟨j7, d8⟩, e8, hm⟩ := q_b hm
          have Gc := Gj
          obtain ⟨h20, e9, Gj, Gd, Rj, Rd, F⟩ := l_X7_readTest _ _ _ _ _ e8 Gj Gd ((congrFun Qj 0).trans Ed) Djd
          have Qj := Rj.trans Qj
          have Qd := Rd.trans Qd
          refine e_bd ((ca7 Gc).trans e9) ?_
          have FR := fun a na => (F a (fun hq => hq.elim (fun hb => na (Or.inl hb)) (fun hb => na (Or.inr (hb))))).trans (FR a na)
          obtain ⟨x9, e9, e7, Gj, Gd, Rj, Rd, F⟩ := l_X7_readClause_90 pj pd Djd _ _ _ hm Gj Gd ((congrFun Qj 0).trans Ed)
          exact ⟨x9, e9, e7, Gj, Gd, Rj.trans Qj, Rd.trans Qd, fun a na => (F a na).trans (FR a na)⟩
        · obtain ⟨x9, e9, e7, Gj, Gd, Rj, Rd, F⟩ := l_X7_readClause_90 pj pd Djd _ _ _ hm Gj Gd ((congrFun Qj 0).trans Ed)
          exact ⟨x9, e9, e7, Gj, Gd, Rj.trans Qj, Rd.trans Qd, fun a na => (F a na).trans (FR a na)⟩
      · obtain ⟨x9, e9, e7, Gj, Gd, Rj, Rd, F⟩ := l_X7_readClause_90 pj pd Djd _ _ _ hm Gj Gd ((congrFun Qj 0).trans Ed)
        exact ⟨x9, e9, e7, Gj, Gd, Rj.trans Qj, Rd.trans Qd, fun a na => (F a na).trans (FR a na)⟩
    · refine e_bd (gp7_0 Gj ((congrFun Qj 0).trans Ed)) ?_
      obtain ⟨⟨r22, d9⟩, e8, hm⟩ := q_b hm
      have Gc := Gd
      obtain ⟨⟨r9, h23⟩, e9, e7, Gd, Rd, F⟩ := l_X3_refuse _ _ _ _ e8 Gd  
      dsimp only at e7 Gd F
      subst e7
      have Qd := Rd.trans Qd
      refine e_bd ((ca3 Gc).trans e9) ?_
      have Gj := fr7 Gj (fun a ha => F a (fun hb => Djd _ ha hb))
      have FR := fun a na => (F a (fun hb => na (Or.inr (hb)))).trans (FR a na)
      have hq0 := Option.some.inj hm
      clear hm
      obtain ⟨rfl, hq1⟩ := Prod.mk.inj hq0
      obtain ⟨rfl, rfl⟩ := Prod.mk.inj hq1
      exact ⟨_, rfl, rfl, Gj, Gd, Qj, Qd, FR⟩
  · refine e_bd (gp7_0 Gj ((congrFun Qj 0).trans Ed)) ?_
    obtain ⟨⟨r26, d10⟩, e8, hm⟩ := q_b hm
    have Gc := Gd
    obtain ⟨⟨r9, h27⟩, e9, e7, Gd, Rd, F⟩ := l_X3_refuse _ _ _ _ e8 Gd  
    dsimp only at e7 Gd F
    subst e7
    have Qd := Rd.trans Qd
    refine e_bd ((ca3 Gc).trans e9) ?_
    have Gj := fr7 Gj (fun a ha => F a (fun hb => Djd _ ha hb))
    have FR := fun a na => (F a (fun hb => na (Or.inr (hb)))).trans (FR a na)
    have hq0 := Option.some.inj hm
    clear hm
    obtain ⟨rfl, hq1⟩ := Prod.mk.inj hq0
    obtain ⟨rfl, rfl⟩ := Prod.mk.inj hq1
    exact ⟨_, rfl, rfl, Gj, Gd, Qj, Qd, FR⟩
def t_X10_changePlaces (t : g_S) (a1 : Int32) (a2 : Int32) : Option g_S :=
  (t_ai 8 (g_A t 3) a1).bind fun v2 =>
  (t_ai 8 (g_A t 4) a1).bind fun v4 =>
  (t_ai 8 (g_A t 3) a2).bind fun v7 =>
  (u_si 8 t 3 a1 v7).bind fun t1 =>
  (t_ai 8 (g_A t1 4) a2).bind fun v11 =>
  (u_si 8 t1 4 a1 v11).bind fun t2 =>
  (u_si 8 t2 3 a2 v2).bind fun t3 =>
  (u_si 8 t3 4 a2 v4).bind fun t4 =>
  some t4
set_option maxRecDepth 20000 in
theorem l_X10_changePlaces (h : q_H) (pt : Nat) (t : g_S) (a1 : Int32) (a2 : Int32) {t' : g_S} (hm : t_X10_changePlaces t a1 a2 = some t') (Gt : g10 pt t h) : q_E (m_X10_changePlaces h pt a1 a2) (fun x => g10 pt t' (x) ∧ ∀ a, ¬ (f10 pt a) → (x) a = h a) := by
  unfold t_X10_changePlaces at hm
  unfold m_X10_changePlaces
  have FR : ∀ a, ¬ (f10 pt a) → h a = h a := fun _ _ => rfl
  refine e_bd (gn10_3 Gt) ?_
  refine e_eq (ai10_3 Gt _) hm (fun v2 hm => ?_)
  refine e_bd (gn10_4 Gt) ?_
  refine e_eq (ai10_4 Gt _) hm (fun v4 hm => ?_)
  refine e_bd (gn10_3 Gt) ?_
  refine e_bd (gn10_3 Gt) ?_
  refine e_eq (ai10_3 Gt _) hm (fun v7 hm => ?_)
  obtain ⟨t1, e8, hm⟩ := q_b hm
  obtain ⟨h8, e9, Gt, F⟩ := as10_3 Gt e8
  refine e_bd e9 ?_
  have FR := fun a na => (F a (fun hb => na (hb))).trans (FR a na)
  refine e_bd (gn10_4 Gt) ?_
  refine e_bd (gn10_4 Gt) ?_
  refine e_eq (ai10_4 Gt _) hm (fun v11 hm => ?_)
  obtain ⟨t2, e8, hm⟩ := q_b hm
  obtain ⟨h12, e9, Gt, F⟩ := as10_4 Gt e8
  refine e_bd e9 ?_
  have FR := fun a na => (F a (fun hb => na (hb))).trans (FR a na)
  refine e_bd (gn10_3 Gt) ?_
  obtain ⟨t3, e8, hm⟩ := q_b hm
  obtain ⟨h14, e9, Gt, F⟩ := as10_3 Gt e8
  refine e_bd e9 ?_
  have FR := fun a na => (F a (fun hb => na (hb))).trans (FR a na)
  refine e_bd (gn10_4 Gt) ?_
  obtain ⟨t4, e8, hm⟩ := q_b hm
  obtain ⟨h16, e9, Gt, F⟩ := as10_4 Gt e8
  refine e_bd e9 ?_
  have FR := fun a na => (F a (fun hb => na (hb))).trans (FR a na)
  obtain rfl := Option.some.inj hm
  exact ⟨_, rfl, Gt, FR⟩
def t_X10_begin_66 (k25 : g_S → g_S → Int32 → Int32 → Option g_S) (t o : g_S) (x2 : Int32) (x3 : Int32) (s0 : Int32) (s1 : Int32) : Option g_S :=
  (u_si 8 t 4 s1 s0).bind fun t5 =>
  (t_ai 8 (g_A t5 3) x3).bind fun v17 =>
  (t_ai 8 (g_A o 6) x3).bind fun v20 =>
  (u_si 8 t5 5 x3 v20).bind fun t6 =>
  (u_si 8 t6 6 x3 ((0 : Int32))).bind fun t7 =>
  k25 t7 o ((x2 + v17)) ((x3 + (1 : Int32)))
set_option maxRecDepth 20000 in
theorem l_X10_begin_66 (pt po : Nat) (Dto : ∀ a, f10 pt a → f4 po a → False) {t' : g_S} {k25 : g_S → g_S → Int32 → Int32 → Option g_S} {gk25 : q_H → Nat → Nat → Int32 → Int32 → Option q_H} (hk25 : ∀ (h : q_H) (t o : g_S) (x2 : Int32) (x3 : Int32), k25 t o x2 x3 = some t' → g10 pt t h → g4 po o h → q_E (gk25 h pt po x2 x3) (fun x => g10 pt t' (x) ∧ ∀ a, ¬ (f10 pt a) → (x) a = h a)) : ∀ (h : q_H) (t o : g_S) (x2 : Int32) (x3 : Int32) (s0 : Int32) (s1 : Int32), t_X10_begin_66 k25 t o x2 x3 s0 s1 = some t' → g10 pt t h → g4 po o h → q_E (m_X10_begin_66 gk25 h pt po x2 x3 s0 s1 (pt + 2)) (fun x => g10 pt t' (x) ∧ ∀ a, ¬ (f10 pt a) → (x) a = h a) := by
  intro h t o x2 x3 s0 s1 hm Gt Go 
  unfold t_X10_begin_66 at hm
  unfold m_X10_begin_66
  have FR : ∀ a, ¬ (f10 pt a) → h a = h a := fun _ _ => rfl
  obtain ⟨t5, e8, hm⟩ := q_b hm
  obtain ⟨h15, e9, Gt, F⟩ := as10_4 Gt e8
  refine e_bd e9 ?_
  have Go := fr4 Go (fun a ha => F a (fun hb => Dto _ hb ha))
  have FR := fun a na => (F a (fun hb => na (hb))).trans (FR a na)
  refine e_bd (gn10_3 Gt) ?_
  refine e_eq (ai10_3 Gt _) hm (fun v17 hm => ?_)
  refine e_bd (gn10_5 Gt) ?_
  refine e_bd (gn4_6 Go) ?_
  refine e_eq (ai4_6 Go _) hm (fun v20 hm => ?_)
  obtain ⟨t6, e8, hm⟩ := q_b hm
  obtain ⟨h21, e9, Gt, F⟩ := as10_5 Gt e8
  refine e_bd e9 ?_
  have Go := fr4 Go (fun a ha => F a (fun hb => Dto _ hb ha))
  have FR := fun a na => (F a (fun hb => na (hb))).trans (FR a na)
  refine e_bd (gn10_6 Gt) ?_
  obtain ⟨t7, e8, hm⟩ := q_b hm
  obtain ⟨h23, e9, Gt, F⟩ := as10_6 Gt e8
  refine e_bd e9 ?_
  have Go := fr4 Go (fun a ha => F a (fun hb => Dto _ hb ha))
  have FR := fun a na => (F a (fun hb => na (hb))).trans (FR a na)
  obtain ⟨x9, e9, Gt, F⟩ := hk25 _ _ _ _ _ hm Gt Go 
  exact ⟨x9, e9, Gt, fun a na => (F a na).trans (FR a na)⟩
def t_X10_begin_25  : Nat → g_S → g_S → Int32 → Int32 → Option g_S
  | 0, _, _, _, _ => none
  | n + 1, t, o, x2, x3 =>
    let v7 := g_I o 3
    if v7 ≤ x3 then
      some t
    else
      (t_ai 8 (g_A o 4) x3).bind fun v10 =>
      (u_si 8 t 3 x3 v10).bind fun t4 =>
      (t_ai 8 (g_A t4 3) x3).bind fun v14 =>
      if v14 = 0 then
        t_X10_begin_66 (t_X10_begin_25 n) t4 o x2 x3 ((x3 - x2)) x3
      else
        t_X10_begin_66 (t_X10_begin_25 n) t4 o x2 x3 x2 x3
set_option maxRecDepth 20000 in
theorem l_X10_begin_25 (pt po : Nat) (Dto : ∀ a, f10 pt a → f4 po a → False) {t' : g_S} : ∀ (n : Nat) (h : q_H) (t o : g_S) (x2 : Int32) (x3 : Int32), t_X10_begin_25 n t o x2 x3 = some t' → g10 pt t h → g4 po o h → q_E (m_X10_begin_25 n h pt po x2 x3) (fun x => g10 pt t' (x) ∧ ∀ a, ¬ (f10 pt a) → (x) a = h a) := by
  intro n
  induction n with
  | zero => intro h t o x2 x3 hm Gt Go ; cases hm
  | succ n ih =>
    intro h t o x2 x3 hm Gt Go 
    unfold t_X10_begin_25 at hm
    unfold m_X10_begin_25
    have FR : ∀ a, ¬ (f10 pt a) → h a = h a := fun _ _ => rfl
    refine e_bd (gi4_3 Go) ?_
    refine e_if hm (fun _ hm => ?_) (fun _ hm => ?_)
    · obtain rfl := Option.some.inj hm
      exact ⟨_, rfl, Gt, FR⟩
    · refine e_bd (gn10_3 Gt) ?_
      refine e_bd (gn4_4 Go) ?_
      refine e_eq (ai4_4 Go _) hm (fun v10 hm => ?_)
      obtain ⟨t4, e8, hm⟩ := q_b hm
      obtain ⟨h11, e9, Gt, F⟩ := as10_3 Gt e8
      refine e_bd e9 ?_
      have Go := fr4 Go (fun a ha => F a (fun hb => Dto _ hb ha))
      have FR := fun a na => (F a (fun hb => na (hb))).trans (FR a na)
      refine e_bd (gn10_4 Gt) ?_
      refine e_bd (gn10_3 Gt) ?_
      refine e_eq (ai10_3 Gt _) hm (fun v14 hm => ?_)
      refine e_if hm (fun _ hm => ?_) (fun _ hm => ?_)
      · obtain ⟨x9, e9, Gt, F⟩ := l_X10_begin_66 pt po Dto ih _ _ _ _ _ _ _ hm Gt Go 
        exact ⟨x9, e9, Gt, fun a na => (F a na).trans (FR a na)⟩
      · obtain ⟨x9, e9, Gt, F⟩ := l_X10_begin_66 pt po Dto ih _ _ _ _ _ _ _ hm Gt Go 
        exact ⟨x9, e9, Gt, fun a na => (F a na).trans (FR a na)⟩
def t_X10_begin (t o : g_S) : Option g_S :=
  let v1 := g_I o 2
  let t1 := g_si t 0 (v1)
  let t2 := g_si t1 1 (0 : Int32)
  (t_X4_everyone o).bind fun r4 =>
  let t3 := g_si t2 2 (r4)
  t_X10_begin_25 q_fu t3 o ((0 : Int32)) ((0 : Int32))
set_option maxRecDepth 20000 in
theorem l_X10_begin (h : q_H) (pt po : Nat) (t o : g_S) {t' : g_S} (hm : t_X10_begin t o = some t') (Gt : g10 pt t h) (Go : g4 po o h) (Dto : ∀ a, f10 pt a → f4 po a → False) : q_E (m_X10_begin h pt po) (fun x => g10 pt t' (x) ∧ ∀ a, ¬ (f10 pt a) → (x) a = h a) := by
  unfold t_X10_begin at hm
  unfold m_X10_begin
  have FR : ∀ a, ¬ (f10 pt a) → h a = h a := fun _ _ => rfl
  refine e_bd (gi4_2 Go) ?_
  refine e_pi (pi10_0 _ Gt) (fun h2 Gt F => ?_)
  have Go := fr4 Go (fun a ha => F a (fun hb => Dto _ hb ha))
  have FR := fun a na => (F a (fun hb => na (hb))).trans (FR a na)
  refine e_pi (pi10_1 _ Gt) (fun h3 Gt F => ?_)
  have Go := fr4 Go (fun a ha => F a (fun hb => Dto _ hb ha))
  have FR := fun a na => (F a (fun hb => na (hb))).trans (FR a na)
  obtain ⟨r4, e8, hm⟩ := q_b hm
  refine e_bd ((ca4 Go).trans (l_X4_everyone _ _ _ e8 Go  )) ?_
  refine e_pi (pi10_2 _ Gt) (fun h6 Gt F => ?_)
  have Go := fr4 Go (fun a ha => F a (fun hb => Dto _ hb ha))
  have FR := fun a na => (F a (fun hb => na (hb))).trans (FR a na)
  obtain ⟨x9, e9, Gt, F⟩ := l_X10_begin_25 pt po Dto _ _ _ _ _ _ hm Gt Go 
  exact ⟨x9, e9, Gt, fun a na => (F a na).trans (FR a na)⟩
def t_X10_likeness_21  : Nat → g_S → Int32 → Int64 → Int32 → Option Int64
  | 0, _, _, _, _ => none
  | n + 1, t, x1, x2, x4 =>
    if x1 ≤ x4 then
      some x2
    else
      (t_ai 8 (g_A t 5) x4).bind fun v4 =>
      t_X10_likeness_21 n t x1 (((x2 <<< (((6 : Int32)).toInt64 &&& 63)) ||| v4.toInt64)) ((x4 + (1 : Int32)))
set_option maxRecDepth 20000 in
theorem l_X10_likeness_21 (pt : Nat) {r : Int64} : ∀ (n : Nat) (h : q_H) (t : g_S) (x1 : Int32) (x2 : Int64) (x4 : Int32), t_X10_likeness_21 n t x1 x2 x4 = some r → g10 pt t h → m_X10_likeness_21 n h pt x1 x2 x4 = some r := by
  intro n
  induction n with
  | zero => intro h t x1 x2 x4 hm Gt ; cases hm
  | succ n ih =>
    intro h t x1 x2 x4 hm Gt 
    unfold t_X10_likeness_21 at hm
    unfold m_X10_likeness_21
    refine r_if _ _ hm (fun _ hm => ?_) (fun _ hm => ?_)
    · exact hm
    · refine p_bd (gn10_5 Gt) ?_
      refine p_eq (ai10_5 Gt _) hm (fun v4 hm => ?_)
      exact ih _ _ _ _ _ hm Gt 
def t_X10_likeness (t : g_S) (a1 : Int32) : Option Int64 :=
  let v1 := g_I t 0
  let v2 := g_I t 2
  t_X10_likeness_21 q_fu t a1 (((((v1 + (100 : Int32))).toInt64 <<< (((8 : Int32)).toInt64 &&& 63)) ||| v2.toInt64)) ((0 : Int32))
set_option maxRecDepth 20000 in
theorem l_X10_likeness (h : q_H) (pt : Nat) (t : g_S) (a1 : Int32) {r : Int64} (hm : t_X10_likeness t a1 = some r) (Gt : g10 pt t h) : m_X10_likeness h pt a1 = some r := by
  unfold t_X10_likeness at hm
  unfold m_X10_likeness
  refine p_bd (gi10_0 Gt) ?_
  refine p_bd (gi10_2 Gt) ?_
  exact l_X10_likeness_21 pt _ _ _ _ _ _ hm Gt 
def t_X9_hasRoomFor (t : g_S) (a1 : Int32) : Option Int32 :=
  let v1 := g_I t 1
  if (400 : Int32) < (v1 + a1) then
    some ((0 : Int32))
  else
    some ((1 : Int32))
set_option maxRecDepth 20000 in
theorem l_X9_hasRoomFor (h : q_H) (pt : Nat) (t : g_S) (a1 : Int32) {r : Int32} (hm : t_X9_hasRoomFor t a1 = some r) (Gt : g9 pt t h) : m_X9_hasRoomFor h pt a1 = some r := by
  unfold t_X9_hasRoomFor at hm
  unfold m_X9_hasRoomFor
  refine p_bd (gi9_1 Gt) ?_
  refine r_if _ _ hm (fun _ hm => ?_) (fun _ hm => ?_)
  · exact hm
  · exact hm
def t_X9_append_3  : Nat → g_S → Int32 → Int32 → Option g_S
  | 0, _, _, _ => none
  | n + 1, t, x1, x2 =>
    if x2 < 0 then
      some t
    else
      let v1 := g_I t 1
      if (400 : Int32) ≤ v1 then
        some t
      else
        let v3 := g_I t 1
        (u_si 400 t 0 v3 (vp_nar .byte (((x1 >>> (x2 &&& 31))).toInt8.toInt32))).bind fun t1 =>
        let v5 := g_I t1 1
        let t2 := g_si t1 1 (v5 + (1 : Int32))
        t_X9_append_3 n t2 x1 ((x2 + (-8 : Int32)))
set_option maxRecDepth 20000 in
theorem l_X9_append_3 (pt : Nat) {t' : g_S} : ∀ (n : Nat) (h : q_H) (t : g_S) (x1 : Int32) (x2 : Int32), t_X9_append_3 n t x1 x2 = some t' → g9 pt t h → q_E (m_X9_append_3 n h pt x1 x2) (fun x => g9 pt t' (x) ∧ ∀ a, ¬ (f9 pt a) → (x) a = h a) := by
  intro n
  induction n with
  | zero => intro h t x1 x2 hm Gt ; cases hm
  | succ n ih =>
    intro h t x1 x2 hm Gt 
    unfold t_X9_append_3 at hm
    unfold m_X9_append_3
    have FR : ∀ a, ¬ (f9 pt a) → h a = h a := fun _ _ => rfl
    refine e_if hm (fun _ hm => ?_) (fun _ hm => ?_)
    · obtain rfl := Option.some.inj hm
      exact ⟨_, rfl, Gt, FR⟩
    · refine e_bd (gi9_1 Gt) ?_
      refine e_if hm (fun _ hm => ?_) (fun _ hm => ?_)
      · obtain rfl := Option.some.inj hm
        exact ⟨_, rfl, Gt, FR⟩
      · refine e_bd (gn9_0 Gt) ?_
        refine e_bd (gi9_1 Gt) ?_
        obtain ⟨t1, e8, hm⟩ := q_b hm
        obtain ⟨h4, e9, Gt, F⟩ := as9_0 Gt e8
        refine e_bd e9 ?_
        have FR := fun a na => (F a (fun hb => na (hb))).trans (FR a na)
        refine e_bd (gi9_1 Gt) ?_
        refine e_pi (pi9_1 _ Gt) (fun h6 Gt F => ?_)
        have FR := fun a na => (F a (fun hb => na (hb))).trans (FR a na)
        obtain ⟨x9, e9, Gt, F⟩ := ih _ _ _ _ hm Gt 
        exact ⟨x9, e9, Gt, fun a na => (F a na).trans (FR a na)⟩
def t_X9_append (t : g_S) (a1 : Int32) : Option g_S :=
  t_X9_append_3 q_fu t a1 ((24 : Int32))
set_option maxRecDepth 20000 in
theorem l_X9_append (h : q_H) (pt : Nat) (t : g_S) (a1 : Int32) {t' : g_S} (hm : t_X9_append t a1 = some t') (Gt : g9 pt t h) : q_E (m_X9_append h pt a1) (fun x => g9 pt t' (x) ∧ ∀ a, ¬ (f9 pt a) → (x) a = h a) := by
  unfold t_X9_append at hm
  unfold m_X9_append
  have FR : ∀ a, ¬ (f9 pt a) → h a = h a := fun _ _ => rfl
  obtain ⟨x9, e9, Gt, F⟩ := l_X9_append_3 pt _ _ _ _ _ hm Gt 
  exact ⟨x9, e9, Gt, fun a na => (F a na).trans (FR a na)⟩
def t_X10_workedTogether_4  : Nat → g_S → Int32 → Int32 → Int32 → Option Int32
  | 0, _, _, _, _ => none
  | n + 1, t, x1, x2, x3 =>
    if x1 ≤ x3 then
      some x2
    else
      (t_ai 8 (g_A t 6) x3).bind fun v2 =>
      t_X10_workedTogether_4 n t x1 ((x2 + v2)) ((x3 + (1 : Int32)))
set_option maxRecDepth 20000 in
theorem l_X10_workedTogether_4 (pt : Nat) {r : Int32} : ∀ (n : Nat) (h : q_H) (t : g_S) (x1 : Int32) (x2 : Int32) (x3 : Int32), t_X10_workedTogether_4 n t x1 x2 x3 = some r → g10 pt t h → m_X10_workedTogether_4 n h pt x1 x2 x3 = some r := by
  intro n
  induction n with
  | zero => intro h t x1 x2 x3 hm Gt ; cases hm
  | succ n ih =>
    intro h t x1 x2 x3 hm Gt 
    unfold t_X10_workedTogether_4 at hm
    unfold m_X10_workedTogether_4
    refine r_if _ _ hm (fun _ hm => ?_) (fun _ hm => ?_)
    · exact hm
    · refine p_bd (gn10_6 Gt) ?_
      refine p_eq (ai10_6 Gt _) hm (fun v2 hm => ?_)
      exact ih _ _ _ _ _ hm Gt 
def t_X10_workedTogether (t : g_S) (a1 : Int32) : Option Int32 :=
  t_X10_workedTogether_4 q_fu t a1 ((0 : Int32)) ((0 : Int32))
set_option maxRecDepth 20000 in
theorem l_X10_workedTogether (h : q_H) (pt : Nat) (t : g_S) (a1 : Int32) {r : Int32} (hm : t_X10_workedTogether t a1 = some r) (Gt : g10 pt t h) : m_X10_workedTogether h pt a1 = some r := by
  unfold t_X10_workedTogether at hm
  unfold m_X10_workedTogether
  exact l_X10_workedTogether_4 pt _ _ _ _ _ _ hm Gt 
def t_X10_crossOver_63 (k13 : g_S → Int32 → Int32 → Int32 → Int32 → Int32 → Option g_S) (t : g_S) (x1 : Int32) (x2 : Int32) (x3 : Int32) (x4 : Int32) (x5 : Int32) : Option g_S :=
  k13 t x1 x2 x3 x4 ((x5 + (1 : Int32)))
set_option maxRecDepth 20000 in
theorem l_X10_crossOver_63 (pt : Nat) {t' : g_S} {k13 : g_S → Int32 → Int32 → Int32 → Int32 → Int32 → Option g_S} {gk13 : q_H → Nat → Int32 → Int32 → Int32 → Int32 → Int32 → Option q_H} (hk13 : ∀ (h : q_H) (t : g_S) (x1 : Int32) (x2 : Int32) (x3 : Int32) (x4 : Int32) (x5 : Int32), k13 t x1 x2 x3 x4 x5 = some t' → g10 pt t h → q_E (gk13 h pt x1 x2 x3 x4 x5) (fun x => g10 pt t' (x) ∧ ∀ a, ¬ (f10 pt a) → (x) a = h a)) : ∀ (h : q_H) (t : g_S) (x1 : Int32) (x2 : Int32) (x3 : Int32) (x4 : Int32) (x5 : Int32), t_X10_crossOver_63 k13 t x1 x2 x3 x4 x5 = some t' → g10 pt t h → q_E (m_X10_crossOver_63 gk13 h pt x1 x2 x3 x4 x5) (fun x => g10 pt t' (x) ∧ ∀ a, ¬ (f10 pt a) → (x) a = h a) := by
  intro h t x1 x2 x3 x4 x5 hm Gt 
  unfold t_X10_crossOver_63 at hm
  unfold m_X10_crossOver_63
  have FR : ∀ a, ¬ (f10 pt a) → h a = h a := fun _ _ => rfl
  obtain ⟨x9, e9, Gt, F⟩ := hk13 _ _ _ _ _ _ _ hm Gt 
  exact ⟨x9, e9, Gt, fun a na => (F a na).trans (FR a na)⟩
def t_X10_crossOver_13  : Nat → g_S → Int32 → Int32 → Int32 → Int32 → Int32 → Option g_S
  | 0, _, _, _, _, _, _ => none
  | n + 1, t, x1, x2, x3, x4, x5 =>
    if x2 ≤ x5 then
      (u_si 8 t 3 x1 (((1 : Int32) - x3))).bind fun t1 =>
      (u_si 8 t1 4 x1 x4).bind fun t2 =>
      some t2
    else
      (t_ai 8 (g_A t 3) x5).bind fun v8 =>
      if v8 = x3 then
        (t_ai 8 (g_A t 4) x5).bind fun v10 =>
        (t_ai 8 (g_A t 4) x1).bind fun v12 =>
        if v10 ≤ v12 then
          t_X10_crossOver_63 (t_X10_crossOver_13 n) t x1 x2 x3 x4 x5
        else
          (t_ai 8 (g_A t 4) x5).bind fun v14 =>
          (u_si 8 t 4 x5 ((v14 - (1 : Int32)))).bind fun t3 =>
          t_X10_crossOver_63 (t_X10_crossOver_13 n) t3 x1 x2 x3 x4 x5
      else
        t_X10_crossOver_63 (t_X10_crossOver_13 n) t x1 x2 x3 ((x4 + (1 : Int32))) x5
set_option maxRecDepth 20000 in
theorem l_X10_crossOver_13 (pt : Nat) {t' : g_S} : ∀ (n : Nat) (h : q_H) (t : g_S) (x1 : Int32) (x2 : Int32) (x3 : Int32) (x4 : Int32) (x5 : Int32), t_X10_crossOver_13 n t x1 x2 x3 x4 x5 = some t' → g10 pt t h → q_E (m_X10_crossOver_13 n h pt x1 x2 x3 x4 x5) (fun x => g10 pt t' (x) ∧ ∀ a, ¬ (f10 pt a) → (x) a = h a) := by
  intro n
  induction n with
  | zero => intro h t x1 x2 x3 x4 x5 hm Gt ; cases hm
  | succ n ih =>
    intro h t x1 x2 x3 x4 x5 hm Gt 
    unfold t_X10_crossOver_13 at hm
    unfold m_X10_crossOver_13
    have FR : ∀ a, ¬ (f10 pt a) → h a = h a := fun _ _ => rfl
    refine e_if hm (fun _ hm => ?_) (fun _ hm => ?_)
    · refine e_bd (gn10_3 Gt) ?_
      obtain ⟨t1, e8, hm⟩ := q_b hm
      obtain ⟨h4, e9, Gt, F⟩ := as10_3 Gt e8
      refine e_bd e9 ?_
      have FR := fun a na => (F a (fun hb => na (hb))).trans (FR a na)
      refine e_bd (gn10_4 Gt) ?_
      obtain ⟨t2, e8, hm⟩ := q_b hm
      obtain ⟨h6, e9, Gt, F⟩ := as10_4 Gt e8
      refine e_bd e9 ?_
      have FR := fun a na => (F a (fun hb => na (hb))).trans (FR a na)
      obtain rfl := Option.some.inj hm
      exact ⟨_, rfl, Gt, FR⟩
    · refine e_bd (gn10_3 Gt) ?_
      refine e_eq (ai10_3 Gt _) hm (fun v8 hm => ?_)
      refine e_if hm (fun _ hm => ?_) (fun _ hm => ?_)
      · refine e_bd (gn10_4 Gt) ?_
        refine e_eq (ai10_4 Gt _) hm (fun v10 hm => ?_)
        refine e_bd (gn10_4 Gt) ?_
        refine e_eq (ai10_4 Gt _) hm (fun v12 hm => ?_)
        refine e_if hm (fun _ hm => ?_) (fun _ hm => ?_)
        · obtain ⟨x9, e9, Gt, F⟩ := l_X10_crossOver_63 pt ih _ _ _ _ _ _ _ hm Gt 
          exact ⟨x9, e9, Gt, fun a na => (F a na).trans (FR a na)⟩
        · refine e_bd (gn10_4 Gt) ?_
          refine e_eq (ai10_4 Gt _) hm (fun v14 hm => ?_)
          obtain ⟨t3, e8, hm⟩ := q_b hm
          obtain ⟨h15, e9, Gt, F⟩ := as10_4 Gt e8
          refine e_bd e9 ?_
          have FR := fun a na => (F a (fun hb => na (hb))).trans (FR a na)
          obtain ⟨x9, e9, Gt, F⟩ := l_X10_crossOver_63 pt ih _ _ _ _ _ _ _ hm Gt 
          exact ⟨x9, e9, Gt, fun a na => (F a na).trans (FR a na)⟩
      · obtain ⟨x9, e9, Gt, F⟩ := l_X10_crossOver_63 pt ih _ _ _ _ _ _ _ hm Gt 
        exact ⟨x9, e9, Gt, fun a na => (F a na).trans (FR a na)⟩
def t_X10_crossOver (t : g_S) (a1 : Int32) (a2 : Int32) : Option g_S :=
  (t_ai 8 (g_A t 3) a1).bind fun v2 =>
  t_X10_crossOver_13 q_fu t a1 a2 v2 ((0 : Int32)) ((0 : Int32))
set_option maxRecDepth 20000 in
theorem l_X10_crossOver (h : q_H) (pt : Nat) (t : g_S) (a1 : Int32) (a2 : Int32) {t' : g_S} (hm : t_X10_crossOver t a1 a2 = some t') (Gt : g10 pt t h) : q_E (m_X10_crossOver h pt a1 a2) (fun x => g10 pt t' (x) ∧ ∀ a, ¬ (f10 pt a) → (x) a = h a) := by
  unfold t_X10_crossOver at hm
  unfold m_X10_crossOver
  have FR : ∀ a, ¬ (f10 pt a) → h a = h a := fun _ _ => rfl
  refine e_bd (gn10_3 Gt) ?_
  refine e_eq (ai10_3 Gt _) hm (fun v2 hm => ?_)
  obtain ⟨x9, e9, Gt, F⟩ := l_X10_crossOver_13 pt _ _ _ _ _ _ _ _ hm Gt 
  exact ⟨x9, e9, Gt, fun a na => (F a na).trans (FR a na)⟩
def t_X10_stepToFront_47 (k2 : g_S → Int32 → Int32 → Int32 → Option g_S) (t : g_S) (x1 : Int32) (x2 : Int32) (x3 : Int32) : Option g_S :=
  k2 t x1 x2 ((x3 + (1 : Int32)))
set_option maxRecDepth 20000 in
theorem l_X10_stepToFront_47 (pt : Nat) {t' : g_S} {k2 : g_S → Int32 → Int32 → Int32 → Option g_S} {gk2 : q_H → Nat → Int32 → Int32 → Int32 → Option q_H} (hk2 : ∀ (h : q_H) (t : g_S) (x1 : Int32) (x2 : Int32) (x3 : Int32), k2 t x1 x2 x3 = some t' → g10 pt t h → q_E (gk2 h pt x1 x2 x3) (fun x => g10 pt t' (x) ∧ ∀ a, ¬ (f10 pt a) → (x) a = h a)) : ∀ (h : q_H) (t : g_S) (x1 : Int32) (x2 : Int32) (x3 : Int32), t_X10_stepToFront_47 k2 t x1 x2 x3 = some t' → g10 pt t h → q_E (m_X10_stepToFront_47 gk2 h pt x1 x2 x3) (fun x => g10 pt t' (x) ∧ ∀ a, ¬ (f10 pt a) → (x) a = h a) := by
  intro h t x1 x2 x3 hm Gt 
  unfold t_X10_stepToFront_47 at hm
  unfold m_X10_stepToFront_47
  have FR : ∀ a, ¬ (f10 pt a) → h a = h a := fun _ _ => rfl
  obtain ⟨x9, e9, Gt, F⟩ := hk2 _ _ _ _ _ hm Gt 
  exact ⟨x9, e9, Gt, fun a na => (F a na).trans (FR a na)⟩
def t_X10_stepToFront_2  : Nat → g_S → Int32 → Int32 → Int32 → Option g_S
  | 0, _, _, _, _ => none
  | n + 1, t, x1, x2, x3 =>
    if x2 ≤ x3 then
      (u_si 8 t 4 x1 ((0 : Int32))).bind fun t1 =>
      some t1
    else
      (t_ai 8 (g_A t 3) x3).bind fun v4 =>
      (t_ai 8 (g_A t 3) x1).bind fun v6 =>
      if v4 = v6 then
        (t_ai 8 (g_A t 4) x3).bind fun v8 =>
        (t_ai 8 (g_A t 4) x1).bind fun v10 =>
        if v10 ≤ v8 then
          t_X10_stepToFront_47 (t_X10_stepToFront_2 n) t x1 x2 x3
        else
          (t_ai 8 (g_A t 4) x3).bind fun v12 =>
          (u_si 8 t 4 x3 ((v12 + (1 : Int32)))).bind fun t2 =>
          t_X10_stepToFront_47 (t_X10_stepToFront_2 n) t2 x1 x2 x3
      else
        t_X10_stepToFront_47 (t_X10_stepToFront_2 n) t x1 x2 x3
set_option maxRecDepth 20000 in
theorem l_X10_stepToFront_2 (pt : Nat) {t' : g_S} : ∀ (n : Nat) (h : q_H) (t : g_S) (x1 : Int32) (x2 : Int32) (x3 : Int32), t_X10_stepToFront_2 n t x1 x2 x3 = some t' → g10 pt t h → q_E (m_X10_stepToFront_2 n h pt x1 x2 x3) (fun x => g10 pt t' (x) ∧ ∀ a, ¬ (f10 pt a) → (x) a = h a) := by
  intro n
  induction n with
  | zero => intro h t x1 x2 x3 hm Gt ; cases hm
  | succ n ih =>
    intro h t x1 x2 x3 hm Gt 
    unfold t_X10_stepToFront_2 at hm
    unfold m_X10_stepToFront_2
    have FR : ∀ a, ¬ (f10 pt a) → h a = h a := fun _ _ => rfl
    refine e_if hm (fun _ hm => ?_) (fun _ hm => ?_)
    · refine e_bd (gn10_4 Gt) ?_
      obtain ⟨t1, e8, hm⟩ := q_b hm
      obtain ⟨h2, e9, Gt, F⟩ := as10_4 Gt e8
      refine e_bd e9 ?_
      have FR := fun a na => (F a (fun hb => na (hb))).trans (FR a na)
      obtain rfl := Option.some.inj hm
      exact ⟨_, rfl, Gt, FR⟩
    · refine e_bd (gn10_3 Gt) ?_
      refine e_eq (ai10_3 Gt _) hm (fun v4 hm => ?_)
      refine e_bd (gn10_3 Gt) ?_
      refine e_eq (ai10_3 Gt _) hm (fun v6 hm => ?_)
      refine e_if hm (fun _ hm => ?_) (fun _ hm => ?_)
      · refine e_bd (gn10_4 Gt) ?_
        refine e_eq (ai10_4 Gt _) hm (fun v8 hm => ?_)
        refine e_bd (gn10_4 Gt) ?_
        refine e_eq (ai10_4 Gt _) hm (fun v10 hm => ?_)
        refine e_if hm (fun _ hm => ?_) (fun _ hm => ?_)
        · obtain ⟨x9, e9, Gt, F⟩ := l_X10_stepToFront_47 pt ih _ _ _ _ _ hm Gt 
          exact ⟨x9, e9, Gt, fun a na => (F a na).trans (FR a na)⟩
        · refine e_bd (gn10_4 Gt) ?_
          refine e_eq (ai10_4 Gt _) hm (fun v12 hm => ?_)
          obtain ⟨t2, e8, hm⟩ := q_b hm
          obtain ⟨h13, e9, Gt, F⟩ := as10_4 Gt e8
          refine e_bd e9 ?_
          have FR := fun a na => (F a (fun hb => na (hb))).trans (FR a na)
          obtain ⟨x9, e9, Gt, F⟩ := l_X10_stepToFront_47 pt ih _ _ _ _ _ hm Gt 
          exact ⟨x9, e9, Gt, fun a na => (F a na).trans (FR a na)⟩
      · obtain ⟨x9, e9, Gt, F⟩ := l_X10_stepToFront_47 pt ih _ _ _ _ _ hm Gt 
        exact ⟨x9, e9, Gt, fun a na => (F a na).trans (FR a na)⟩
def t_X10_stepToFront (t : g_S) (a1 : Int32) (a2 : Int32) : Option g_S :=
  t_X10_stepToFront_2 q_fu t a1 a2 ((0 : Int32))
set_option maxRecDepth 20000 in
theorem l_X10_stepToFront (h : q_H) (pt : Nat) (t : g_S) (a1 : Int32) (a2 : Int32) {t' : g_S} (hm : t_X10_stepToFront t a1 a2 = some t') (Gt : g10 pt t h) : q_E (m_X10_stepToFront h pt a1 a2) (fun x => g10 pt t' (x) ∧ ∀ a, ¬ (f10 pt a) → (x) a = h a) := by
  unfold t_X10_stepToFront at hm
  unfold m_X10_stepToFront
  have FR : ∀ a, ¬ (f10 pt a) → h a = h a := fun _ _ => rfl
  obtain ⟨x9, e9, Gt, F⟩ := l_X10_stepToFront_2 pt _ _ _ _ _ _ hm Gt 
  exact ⟨x9, e9, Gt, fun a na => (F a na).trans (FR a na)⟩
def t_X10_penceOf_96 (k36 : g_S → Int32 → Int32 → Int32 → Int32 → Int32 → Int32 → Int32 → Int32 → Option Int32) (t : g_S) (x1 : Int32) (x2 : Int32) (x3 : Int32) (x4 : Int32) (x5 : Int32) (x6 : Int32) (x7 : Int32) (x8 : Int32) : Option Int32 :=
  k36 t x1 x2 x3 x4 x5 x6 x7 ((x8 + (1 : Int32)))
set_option maxRecDepth 20000 in
theorem l_X10_penceOf_96 (pt : Nat) {r : Int32} {k36 : g_S → Int32 → Int32 → Int32 → Int32 → Int32 → Int32 → Int32 → Int32 → Option Int32} {gk36 : q_H → Nat → Int32 → Int32 → Int32 → Int32 → Int32 → Int32 → Int32 → Int32 → Option Int32} (hk36 : ∀ (h : q_H) (t : g_S) (x1 : Int32) (x2 : Int32) (x3 : Int32) (x4 : Int32) (x5 : Int32) (x6 : Int32) (x7 : Int32) (x8 : Int32), k36 t x1 x2 x3 x4 x5 x6 x7 x8 = some r → g10 pt t h → gk36 h pt x1 x2 x3 x4 x5 x6 x7 x8 = some r) : ∀ (h : q_H) (t : g_S) (x1 : Int32) (x2 : Int32) (x3 : Int32) (x4 : Int32) (x5 : Int32) (x6 : Int32) (x7 : Int32) (x8 : Int32), t_X10_penceOf_96 k36 t x1 x2 x3 x4 x5 x6 x7 x8 = some r → g10 pt t h → m_X10_penceOf_96 gk36 h pt x1 x2 x3 x4 x5 x6 x7 x8 = some r := by
  intro h t x1 x2 x3 x4 x5 x6 x7 x8 hm Gt 
  unfold t_X10_penceOf_96 at hm
  unfold m_X10_penceOf_96
  exact hk36 _ _ _ _ _ _ _ _ _ _ hm Gt 
def t_X10_penceOf_93 (k36 : g_S → Int32 → Int32 → Int32 → Int32 → Int32 → Int32 → Int32 → Int32 → Option Int32) (t : g_S) (x1 : Int32) (x2 : Int32) (x3 : Int32) (x4 : Int32) (x5 : Int32) (x6 : Int32) (x7 : Int32) (x8 : Int32) : Option Int32 :=
  t_X10_penceOf_96 k36 t x1 x2 x3 x4 x5 ((x6 + (1 : Int32))) x7 x8
set_option maxRecDepth 20000 in
theorem l_X10_penceOf_93 (pt : Nat) {r : Int32} {k36 : g_S → Int32 → Int32 → Int32 → Int32 → Int32 → Int32 → Int32 → Int32 → Option Int32} {gk36 : q_H → Nat → Int32 → Int32 → Int32 → Int32 → Int32 → Int32 → Int32 → Int32 → Option Int32} (hk36 : ∀ (h : q_H) (t : g_S) (x1 : Int32) (x2 : Int32) (x3 : Int32) (x4 : Int32) (x5 : Int32) (x6 : Int32) (x7 : Int32) (x8 : Int32), k36 t x1 x2 x3 x4 x5 x6 x7 x8 = some r → g10 pt t h → gk36 h pt x1 x2 x3 x4 x5 x6 x7 x8 = some r) : ∀ (h : q_H) (t : g_S) (x1 : Int32) (x2 : Int32) (x3 : Int32) (x4 : Int32) (x5 : Int32) (x6 : Int32) (x7 : Int32) (x8 : Int32), t_X10_penceOf_93 k36 t x1 x2 x3 x4 x5 x6 x7 x8 = some r → g10 pt t h → m_X10_penceOf_93 gk36 h pt x1 x2 x3 x4 x5 x6 x7 x8 = some r := by
  intro h t x1 x2 x3 x4 x5 x6 x7 x8 hm Gt 
  unfold t_X10_penceOf_93 at hm
  unfold m_X10_penceOf_93
  exact l_X10_penceOf_96 pt hk36 _ _ _ _ _ _ _ _ _ _ hm Gt 
def t_X10_penceOf_125 (t : g_S) (s0 : Int32) (s1 : Int32) : Option Int32 :=
  some ((s1 + s0))
set_option maxRecDepth 20000 in
theorem l_X10_penceOf_125 (pt : Nat) {r : Int32} : ∀ (h : q_H) (t : g_S) (s0 : Int32) (s1 : Int32), t_X10_penceOf_125 t s0 s1 = some r → g10 pt t h → m_X10_penceOf_125 h s0 s1 = some r := by
  intro h t s0 s1 hm Gt 
  unfold t_X10_penceOf_125 at hm
  unfold m_X10_penceOf_125
  exact hm
def t_X10_penceOf_36  : Nat → g_S → Int32 → Int32 → Int32 → Int32 → Int32 → Int32 → Int32 → Int32 → Option Int32
  | 0, _, _, _, _, _, _, _, _, _ => none
  | n + 1, t, x1, x2, x3, x4, x5, x6, x7, x8 =>
    if x3 ≤ x8 then
      (t_ai 8 (g_A t 6) x2).bind fun v6 =>
      if x4 = 0 then none else
      if x5 ≤ x6 then
        t_X10_penceOf_125 t ((0 : Int32)) (((x1 * v6) / x4))
      else
        t_X10_penceOf_125 t ((1 : Int32)) (((x1 * v6) / x4))
    else
      (t_ai 8 (g_A t 6) x8).bind fun v8 =>
      if x4 = 0 then none else
      (t_ai 8 (g_A t 6) x8).bind fun v10 =>
      if x4 = 0 then none else
      if x7 < (q_rmi ((x1 * v8)) x4) then
        t_X10_penceOf_93 (t_X10_penceOf_36 n) t x1 x2 x3 x4 ((x5 - ((x1 * v10) / x4))) x6 x7 x8
      else
        if (q_rmi ((x1 * v8)) x4) = x7 then
          if x2 ≤ x8 then
            t_X10_penceOf_96 (t_X10_penceOf_36 n) t x1 x2 x3 x4 ((x5 - ((x1 * v10) / x4))) x6 x7 x8
          else
            t_X10_penceOf_93 (t_X10_penceOf_36 n) t x1 x2 x3 x4 ((x5 - ((x1 * v10) / x4))) x6 x7 x8
        else
          t_X10_penceOf_96 (t_X10_penceOf_36 n) t x1 x2 x3 x4 ((x5 - ((x1 * v10) / x4))) x6 x7 x8
set_option maxRecDepth 20000 in
theorem l_X10_penceOf_36 (pt : Nat) {r : Int32} : ∀ (n : Nat) (h : q_H) (t : g_S) (x1 : Int32) (x2 : Int32) (x3 : Int32) (x4 : Int32) (x5 : Int32) (x6 : Int32) (x7 : Int32) (x8 : Int32), t_X10_penceOf_36 n t x1 x2 x3 x4 x5 x6 x7 x8 = some r → g10 pt t h → m_X10_penceOf_36 n h pt x1 x2 x3 x4 x5 x6 x7 x8 = some r := by
  intro n
  induction n with
  | zero => intro h t x1 x2 x3 x4 x5 x6 x7 x8 hm Gt ; cases hm
  | succ n ih =>
    intro h t x1 x2 x3 x4 x5 x6 x7 x8 hm Gt 
    unfold t_X10_penceOf_36 at hm
    unfold m_X10_penceOf_36
    refine r_if _ _ hm (fun _ hm => ?_) (fun _ hm => ?_)
    · refine p_bd (gn10_6 Gt) ?_
      refine p_eq (ai10_6 Gt _) hm (fun v6 hm => ?_)
      refine r_if _ _ hm (fun _ hm => by cases hm) (fun _ hm => ?_)
      refine r_if _ _ hm (fun _ hm => ?_) (fun _ hm => ?_)
      · exact l_X10_penceOf_125 pt _ _ _ _ hm Gt 
      · exact l_X10_penceOf_125 pt _ _ _ _ hm Gt 
    · refine p_bd (gn10_6 Gt) ?_
      refine p_eq (ai10_6 Gt _) hm (fun v8 hm => ?_)
      refine r_if _ _ hm (fun _ hm => by cases hm) (fun _ hm => ?_)
      refine p_bd (gn10_6 Gt) ?_
      refine p_eq (ai10_6 Gt _) hm (fun v10 hm => ?_)
      refine r_if _ _ hm (fun _ hm => by cases hm) (fun _ hm => ?_)
      refine r_if _ _ hm (fun _ hm => ?_) (fun _ hm => ?_)
      · exact l_X10_penceOf_93 pt ih _ _ _ _ _ _ _ _ _ _ hm Gt 
      · refine r_if _ _ hm (fun _ hm => ?_) (fun _ hm => ?_)
        · refine r_if _ _ hm (fun _ hm => ?_) (fun _ hm => ?_)
          · exact l_X10_penceOf_96 pt ih _ _ _ _ _ _ _ _ _ _ hm Gt 
          · exact l_X10_penceOf_93 pt ih _ _ _ _ _ _ _ _ _ _ hm Gt 
        · exact l_X10_penceOf_96 pt ih _ _ _ _ _ _ _ _ _ _ hm Gt 
def t_X10_penceOf (t : g_S) (a1 : Int32) (a2 : Int32) (a3 : Int32) : Option Int32 :=
  (t_X10_workedTogether t a3).bind fun r1 =>
  if r1 = 0 then
    some ((0 : Int32))
  else
    (t_ai 8 (g_A t 6) a2).bind fun v4 =>
    if r1 = 0 then none else
    t_X10_penceOf_36 q_fu t a1 a2 a3 r1 a1 ((0 : Int32)) ((q_rmi ((a1 * v4)) r1)) ((0 : Int32))
set_option maxRecDepth 20000 in
theorem l_X10_penceOf (h : q_H) (pt : Nat) (t : g_S) (a1 : Int32) (a2 : Int32) (a3 : Int32) {r : Int32} (hm : t_X10_penceOf t a1 a2 a3 = some r) (Gt : g10 pt t h) : m_X10_penceOf h pt a1 a2 a3 = some r := by
  unfold t_X10_penceOf at hm
  unfold m_X10_penceOf
  obtain ⟨r1, e8, hm⟩ := q_b hm
  refine p_bd ((ca10 Gt).trans (l_X10_workedTogether _ _ _ _ e8 Gt  )) ?_
  refine r_if _ _ hm (fun _ hm => ?_) (fun _ hm => ?_)
  · exact hm
  · refine p_bd (gn10_6 Gt) ?_
    refine p_eq (ai10_6 Gt _) hm (fun v4 hm => ?_)
    refine r_if _ _ hm (fun _ hm => by cases hm) (fun _ hm => ?_)
    exact l_X10_penceOf_36 pt _ _ _ _ _ _ _ _ _ _ _ hm Gt 
def t_X3_wordIn_85 (k10 : g_S → g_S → Int32 → Int32 → Int32 → Int32 → Int32 → Option Int32) (d t : g_S) (x1 : Int32) (x2 : Int32) (x3 : Int32) (x4 : Int32) (x5 : Int32) : Option Int32 :=
  k10 d t x1 x2 x3 x4 ((x5 + (1 : Int32)))
set_option maxRecDepth 20000 in
theorem l_X3_wordIn_85 (pd pt : Nat) (Ddt : ∀ a, f3 pd a → f9 pt a → False) {r : Int32} {k10 : g_S → g_S → Int32 → Int32 → Int32 → Int32 → Int32 → Option Int32} {gk10 : q_H → Nat → Int32 → Int32 → Int32 → Int32 → Int32 → Option Int32} (hk10 : ∀ (h : q_H) (d t : g_S) (x1 : Int32) (x2 : Int32) (x3 : Int32) (x4 : Int32) (x5 : Int32), k10 d t x1 x2 x3 x4 x5 = some r → g3 pd d h → g9 pt t h → g_P d 0 = some pt → gk10 h pd x1 x2 x3 x4 x5 = some r) : ∀ (h : q_H) (d t : g_S) (x1 : Int32) (x2 : Int32) (x3 : Int32) (x4 : Int32) (x5 : Int32), t_X3_wordIn_85 k10 d t x1 x2 x3 x4 x5 = some r → g3 pd d h → g9 pt t h → g_P d 0 = some pt → m_X3_wordIn_85 gk10 h pd x1 x2 x3 x4 x5 = some r := by
  intro h d t x1 x2 x3 x4 x5 hm Gd Gt Et
  unfold t_X3_wordIn_85 at hm
  unfold m_X3_wordIn_85
  exact hk10 _ _ _ _ _ _ _ _ hm Gd Gt Et
def t_X3_wordIn_66 (k10 : g_S → g_S → Int32 → Int32 → Int32 → Int32 → Int32 → Option Int32) (d t : g_S) (x1 : Int32) (x2 : Int32) (x3 : Int32) (x5 : Int32) (s0 : Int32) : Option Int32 :=
  t_X3_wordIn_85 k10 d t x1 x2 x3 s0 x5
set_option maxRecDepth 20000 in
theorem l_X3_wordIn_66 (pd pt : Nat) (Ddt : ∀ a, f3 pd a → f9 pt a → False) {r : Int32} {k10 : g_S → g_S → Int32 → Int32 → Int32 → Int32 → Int32 → Option Int32} {gk10 : q_H → Nat → Int32 → Int32 → Int32 → Int32 → Int32 → Option Int32} (hk10 : ∀ (h : q_H) (d t : g_S) (x1 : Int32) (x2 : Int32) (x3 : Int32) (x4 : Int32) (x5 : Int32), k10 d t x1 x2 x3 x4 x5 = some r → g3 pd d h → g9 pt t h → g_P d 0 = some pt → gk10 h pd x1 x2 x3 x4 x5 = some r) : ∀ (h : q_H) (d t : g_S) (x1 : Int32) (x2 : Int32) (x3 : Int32) (x5 : Int32) (s0 : Int32), t_X3_wordIn_66 k10 d t x1 x2 x3 x5 s0 = some r → g3 pd d h → g9 pt t h → g_P d 0 = some pt → m_X3_wordIn_66 gk10 h pd x1 x2 x3 x5 s0 = some r := by
  intro h d t x1 x2 x3 x5 s0 hm Gd Gt Et
  unfold t_X3_wordIn_66 at hm
  unfold m_X3_wordIn_66
  exact l_X3_wordIn_85 pd pt Ddt hk10 _ _ _ _ _ _ _ _ hm Gd Gt Et
def t_X3_wordIn_63 (k10 : g_S → g_S → Int32 → Int32 → Int32 → Int32 → Int32 → Option Int32) (d t : g_S) (x1 : Int32) (x2 : Int32) (x3 : Int32) (x5 : Int32) : Option Int32 :=
  t_X3_wordIn_66 k10 d t x1 x2 x3 x5 ((401 : Int32))
set_option maxRecDepth 20000 in
theorem l_X3_wordIn_63 (pd pt : Nat) (Ddt : ∀ a, f3 pd a → f9 pt a → False) {r : Int32} {k10 : g_S → g_S → Int32 → Int32 → Int32 → Int32 → Int32 → Option Int32} {gk10 : q_H → Nat → Int32 → Int32 → Int32 → Int32 → Int32 → Option Int32} (hk10 : ∀ (h : q_H) (d t : g_S) (x1 : Int32) (x2 : Int32) (x3 : Int32) (x4 : Int32) (x5 : Int32), k10 d t x1 x2 x3 x4 x5 = some r → g3 pd d h → g9 pt t h → g_P d 0 = some pt → gk10 h pd x1 x2 x3 x4 x5 = some r) : ∀ (h : q_H) (d t : g_S) (x1 : Int32) (x2 : Int32) (x3 : Int32) (x5 : Int32), t_X3_wordIn_63 k10 d t x1 x2 x3 x5 = some r → g3 pd d h → g9 pt t h → g_P d 0 = some pt → m_X3_wordIn_63 gk10 h pd x1 x2 x3 x5 = some r := by
  intro h d t x1 x2 x3 x5 hm Gd Gt Et
  unfold t_X3_wordIn_63 at hm
  unfold m_X3_wordIn_63
  exact l_X3_wordIn_66 pd pt Ddt hk10 _ _ _ _ _ _ _ _ hm Gd Gt Et
def t_X3_wordIn_10  : Nat → g_S → g_S → Int32 → Int32 → Int32 → Int32 → Int32 → Option Int32
  | 0, _, _, _, _, _, _, _ => none
  | n + 1, d, t, x1, x2, x3, x4, x5 =>
    if (91 : Int32) ≤ x5 then
      some ((602 : Int32))
    else
      (q_ch x5).bind fun v1 =>
      if v1 = (32 : Int32) then
        if x4 = x2 then
          some x3
        else
          t_X3_wordIn_85 (t_X3_wordIn_10 n) d t x1 x2 ((x3 + (1 : Int32))) x1 x5
      else
        if x2 ≤ x4 then
          t_X3_wordIn_63 (t_X3_wordIn_10 n) d t x1 x2 x3 x5
        else
          (t_X9_byteAt t x4).bind fun r4 =>
          if r4 = v1 then
            t_X3_wordIn_66 (t_X3_wordIn_10 n) d t x1 x2 x3 x5 ((x4 + (1 : Int32)))
          else
            t_X3_wordIn_63 (t_X3_wordIn_10 n) d t x1 x2 x3 x5
set_option maxRecDepth 20000 in
theorem l_X3_wordIn_10 (pd pt : Nat) (Ddt : ∀ a, f3 pd a → f9 pt a → False) {r : Int32} : ∀ (n : Nat) (h : q_H) (d t : g_S) (x1 : Int32) (x2 : Int32) (x3 : Int32) (x4 : Int32) (x5 : Int32), t_X3_wordIn_10 n d t x1 x2 x3 x4 x5 = some r → g3 pd d h → g9 pt t h → g_P d 0 = some pt → m_X3_wordIn_10 n h pd x1 x2 x3 x4 x5 = some r := by
  intro n
  induction n with
  | zero => intro h d t x1 x2 x3 x4 x5 hm Gd Gt Et; cases hm
  | succ n ih =>
    intro h d t x1 x2 x3 x4 x5 hm Gd Gt Et
    unfold t_X3_wordIn_10 at hm
    unfold m_X3_wordIn_10
    refine r_if _ _ hm (fun _ hm => ?_) (fun _ hm => ?_)
    · exact hm
    · refine r_bd hm (fun v1 hm => ?_)
      refine r_if _ _ hm (fun _ hm => ?_) (fun _ hm => ?_)
      · refine r_if _ _ hm (fun _ hm => ?_) (fun _ hm => ?_)
        · exact hm
        · exact l_X3_wordIn_85 pd pt Ddt ih _ _ _ _ _ _ _ _ hm Gd Gt Et
      · refine r_if _ _ hm (fun _ hm => ?_) (fun _ hm => ?_)
        · exact l_X3_wordIn_63 pd pt Ddt ih _ _ _ _ _ _ _ hm Gd Gt Et
        · refine p_bd (gp3_0 Gd Et) ?_
          obtain ⟨r4, e8, hm⟩ := q_b hm
          refine p_bd ((ca9 Gt).trans (l_X9_byteAt _ _ _ _ e8 Gt  )) ?_
          refine r_if _ _ hm (fun _ hm => ?_) (fun _ hm => ?_)
          · exact l_X3_wordIn_66 pd pt Ddt ih _ _ _ _ _ _ _ _ hm Gd Gt Et
          · exact l_X3_wordIn_63 pd pt Ddt ih _ _ _ _ _ _ _ hm Gd Gt Et
def t_X3_wordIn (d t : g_S) (a1 : Int32) (a2 : Int32) : Option Int32 :=
  t_X3_wordIn_10 q_fu d t a1 a2 ((700 : Int32)) a1 ((0 : Int32))
set_option maxRecDepth 20000 in
theorem l_X3_wordIn (h : q_H) (pd pt : Nat) (d t : g_S) (a1 : Int32) (a2 : Int32) {r : Int32} (hm : t_X3_wordIn d t a1 a2 = some r) (Gd : g3 pd d h) (Gt : g9 pt t h) (Et : g_P d 0 = some pt) (Ddt : ∀ a, f3 pd a → f9 pt a → False) : m_X3_wordIn h pd a1 a2 = some r := by
  unfold t_X3_wordIn at hm
  unfold m_X3_wordIn
  exact l_X3_wordIn_10 pd pt Ddt _ _ _ _ _ _ _ _ _ hm Gd Gt Et
def t_X3_part_131 (d t : g_S) (x1 : Int32) (x2 : Int32) (x3 : Int32) : Option (Int32 × g_S) :=
  (t_X3_add d x2 ((-1 : Int32)) x1).bind fun d3 =>
  some (x3, d3)
set_option maxRecDepth 20000 in
theorem l_X3_part_131 (pd pt : Nat) (Ddt : ∀ a, f3 pd a → f9 pt a → False) {r : Int32} {d' : g_S} : ∀ (h : q_H) (d t : g_S) (x1 : Int32) (x2 : Int32) (x3 : Int32), t_X3_part_131 d t x1 x2 x3 = some (r, d') → g3 pd d h → g9 pt t h → g_P d 0 = some pt → q_E (m_X3_part_131 h pd x1 x2 x3) (fun x => x.1 = r ∧ g3 pd d' (x.2) ∧ g_P d' = g_P d ∧ ∀ a, ¬ (f3 pd a) → (x.2) a = h a) := by
  intro h d t x1 x2 x3 hm Gd Gt Et
  unfold t_X3_part_131 at hm
  unfold m_X3_part_131
  have FR : ∀ a, ¬ (f3 pd a) → h a = h a := fun _ _ => rfl
  have Qd : g_P d = g_P d := rfl
  obtain ⟨d3, e8, hm⟩ := q_b hm
  have Gc := Gd
  obtain ⟨h17, e9, Gd, Rd, F⟩ := l_X3_add _ _ _ _ _ _ e8 Gd  
  have Qd := Rd.trans Qd
  refine e_bd ((ca3 Gc).trans e9) ?_
  have Gt := fr9 Gt (fun a ha => F a (fun hb => Ddt _ hb ha))
  have FR := fun a na => (F a (fun hb => na (hb))).trans (FR a na)
  have hq0 := Option.some.inj hm
  clear hm
  obtain ⟨rfl, rfl⟩ := Prod.mk.inj hq0
  exact ⟨_, rfl, rfl, Gd, Qd, FR⟩
def t_X3_part_101 (d t : g_S) (x1 : Int32) (x2 : Int32) (x3 : Int32) : Option (Int32 × g_S) :=
  (t_X9_byteAt t x3).bind fun r19 =>
  if r19 = (61 : Int32) then
    (t_X3_add d ((x2 + (256 : Int32))) ((-1 : Int32)) x1).bind fun d4 =>
    some ((x3 + (1 : Int32)), d4)
  else
    t_X3_part_131 d t x1 x2 x3
set_option maxRecDepth 20000 in
theorem l_X3_part_101 (pd pt : Nat) (Ddt : ∀ a, f3 pd a → f9 pt a → False) {r : Int32} {d' : g_S} : ∀ (h : q_H) (d t : g_S) (x1 : Int32) (x2 : Int32) (x3 : Int32), t_X3_part_101 d t x1 x2 x3 = some (r, d') → g3 pd d h → g9 pt t h → g_P d 0 = some pt → q_E (m_X3_part_101 h pd x1 x2 x3) (fun x => x.1 = r ∧ g3 pd d' (x.2) ∧ g_P d' = g_P d ∧ ∀ a, ¬ (f3 pd a) → (x.2) a = h a) := by
  intro h d t x1 x2 x3 hm Gd Gt Et
  unfold t_X3_part_101 at hm
  unfold m_X3_part_101
  have FR : ∀ a, ¬ (f3 pd a) → h a = h a := fun _ _ => rfl
  have Qd : g_P d = g_P d := rfl
  refine e_bd (gp3_0 Gd ((congrFun Qd 0).trans Et)) ?_
  obtain ⟨r19, e8, hm⟩ := q_b hm
  refine e_bd ((ca9 Gt).trans (l_X9_byteAt _ _ _ _ e8 Gt  )) ?_
  refine e_if hm (fun _ hm => ?_) (fun _ hm => ?_)
  · obtain ⟨d4, e8, hm⟩ := q_b hm
    have Gc := Gd
    obtain ⟨h22, e9, Gd, Rd, F⟩ := l_X3_add _ _ _ _ _ _ e8 Gd  
    have Qd := Rd.trans Qd
    refine e_bd ((ca3 Gc).trans e9) ?_
    have Gt := fr9 Gt (fun a ha => F a (fun hb => Ddt _ hb ha))
    have FR := fun a na => (F a (fun hb => na (hb))).trans (FR a na)
    have hq0 := Option.some.inj hm
    clear hm
    obtain ⟨rfl, rfl⟩ := Prod.mk.inj hq0
    exact ⟨_, rfl, rfl, Gd, Qd, FR⟩
  · obtain ⟨x9, e9, e7, Gd, Rd, F⟩ := l_X3_part_131 pd pt Ddt _ _ _ _ _ _ hm Gd Gt ((congrFun Qd 0).trans Et)
    exact ⟨x9, e9, e7, Gd, Rd.trans Qd, fun a na => (F a na).trans (FR a na)⟩
def t_X3_part_89 (d t : g_S) (x1 : Int32) (x2 : Int32) (x3 : Int32) : Option (Int32 × g_S) :=
  if x2 = (60 : Int32) then
    t_X3_part_101 d t x1 x2 x3
  else
    if x2 = (62 : Int32) then
      t_X3_part_101 d t x1 x2 x3
    else
      t_X3_part_131 d t x1 x2 x3
set_option maxRecDepth 20000 in
theorem l_X3_part_89 (pd pt : Nat) (Ddt : ∀ a, f3 pd a → f9 pt a → False) {r : Int32} {d' : g_S} : ∀ (h : q_H) (d t : g_S) (x1 : Int32) (x2 : Int32) (x3 : Int32), t_X3_part_89 d t x1 x2 x3 = some (r, d') → g3 pd d h → g9 pt t h → g_P d 0 = some pt → q_E (m_X3_part_89 h pd x1 x2 x3) (fun x => x.1 = r ∧ g3 pd d' (x.2) ∧ g_P d' = g_P d ∧ ∀ a, ¬ (f3 pd a) → (x.2) a = h a) := by
  intro h d t x1 x2 x3 hm Gd Gt Et
  unfold t_X3_part_89 at hm
  unfold m_X3_part_89
  have FR : ∀ a, ¬ (f3 pd a) → h a = h a := fun _ _ => rfl
  have Qd : g_P d = g_P d := rfl
  refine e_if hm (fun _ hm => ?_) (fun _ hm => ?_)
  · obtain ⟨x9, e9, e7, Gd, Rd, F⟩ := l_X3_part_101 pd pt Ddt _ _ _ _ _ _ hm Gd Gt ((congrFun Qd 0).trans Et)
    exact ⟨x9, e9, e7, Gd, Rd.trans Qd, fun a na => (F a na).trans (FR a na)⟩
  · refine e_if hm (fun _ hm => ?_) (fun _ hm => ?_)
    · obtain ⟨x9, e9, e7, Gd, Rd, F⟩ := l_X3_part_101 pd pt Ddt _ _ _ _ _ _ hm Gd Gt ((congrFun Qd 0).trans Et)
      exact ⟨x9, e9, e7, Gd, Rd.trans Qd, fun a na => (F a na).trans (FR a na)⟩
    · obtain ⟨x9, e9, e7, Gd, Rd, F⟩ := l_X3_part_131 pd pt Ddt _ _ _ _ _ _ hm Gd Gt ((congrFun Qd 0).trans Et)
      exact ⟨x9, e9, e7, Gd, Rd.trans Qd, fun a na => (F a na).trans (FR a na)⟩
def t_X3_part_52 (d t : g_S) (x1 : Int32) (x2 : Int32) (x3 : Int32) : Option (Int32 × g_S) :=
  if x2 < (97 : Int32) then
    t_X3_part_89 d t x1 x2 x3
  else
    if (122 : Int32) < x2 then
      t_X3_part_89 d t x1 x2 x3
    else
      (t_X3_behind d t x1 ((97 : Int32)) ((122 : Int32))).bind fun r10 =>
      (t_X3_wordIn d t x1 r10).bind fun r12 =>
      (t_X3_add d r12 ((-1 : Int32)) x1).bind fun d2 =>
      some (r10, d2)
set_option maxRecDepth 20000 in
theorem l_X3_part_52 (pd pt : Nat) (Ddt : ∀ a, f3 pd a → f9 pt a → False) {r : Int32} {d' : g_S} : ∀ (h : q_H) (d t : g_S) (x1 : Int32) (x2 : Int32) (x3 : Int32), t_X3_part_52 d t x1 x2 x3 = some (r, d') → g3 pd d h → g9 pt t h → g_P d 0 = some pt → q_E (m_X3_part_52 h pd x1 x2 x3) (fun x => x.1 = r ∧ g3 pd d' (x.2) ∧ g_P d' = g_P d ∧ ∀ a, ¬ (f3 pd a) → (x.2) a = h a) := by
  intro h d t x1 x2 x3 hm Gd Gt Et
  unfold t_X3_part_52 at hm
  unfold m_X3_part_52
  have FR : ∀ a, ¬ (f3 pd a) → h a = h a := fun _ _ => rfl
  have Qd : g_P d = g_P d := rfl
  refine e_if hm (fun _ hm => ?_) (fun _ hm => ?_)
  · obtain ⟨x9, e9, e7, Gd, Rd, F⟩ := l_X3_part_89 pd pt Ddt _ _ _ _ _ _ hm Gd Gt ((congrFun Qd 0).trans Et)
    exact ⟨x9, e9, e7, Gd, Rd.trans Qd, fun a na => (F a na).trans (FR a na)⟩
  · refine e_if hm (fun _ hm => ?_) (fun _ hm => ?_)
    · obtain ⟨x9, e9, e7, Gd, Rd, F⟩ := l_X3_part_89 pd pt Ddt _ _ _ _ _ _ hm Gd Gt ((congrFun Qd 0).trans Et)
      exact ⟨x9, e9, e7, Gd, Rd.trans Qd, fun a na => (F a na).trans (FR a na)⟩
    · obtain ⟨r10, e8, hm⟩ := q_b hm
      refine e_bd ((ca3 Gd).trans (l_X3_behind _ _ _ _ _ _ _ _ e8 Gd Gt ((congrFun Qd 0).trans Et) Ddt)) ?_
      obtain ⟨r12, e8, hm⟩ := q_b hm
      refine e_bd ((ca3 Gd).trans (l_X3_wordIn _ _ _ _ _ _ _ e8 Gd Gt ((congrFun Qd 0).trans Et) Ddt)) ?_
      obtain ⟨d2, e8, hm⟩ := q_b hm
      have Gc := Gd
      obtain ⟨h15, e9, Gd, Rd, F⟩ := l_X3_add _ _ _ _ _ _ e8 Gd  
      have Qd := Rd.trans Qd
      refine e_bd ((ca3 Gc).trans e9) ?_
      have Gt := fr9 Gt (fun a ha => F a (fun hb => Ddt _ hb ha))
      have FR := fun a na => (F a (fun hb => na (hb))).trans (FR a na)
      have hq0 := Option.some.inj hm
      clear hm
      obtain ⟨rfl, rfl⟩ := Prod.mk.inj hq0
      exact ⟨_, rfl, rfl, Gd, Qd, FR⟩
def t_X3_part (d t : g_S) (a1 : Int32) : Option (Int32 × g_S) :=
  (t_X9_byteAt t a1).bind fun r2 =>
  if r2 < (48 : Int32) then
    t_X3_part_52 d t a1 r2 ((a1 + (1 : Int32)))
  else
    if (57 : Int32) < r2 then
      t_X3_part_52 d t a1 r2 ((a1 + (1 : Int32)))
    else
      (t_X3_behind d t a1 ((48 : Int32)) ((57 : Int32))).bind fun r4 =>
      (t_X3_numberIn d t a1 r4).bind fun r6 =>
      (t_X3_add d ((601 : Int32)) r6 a1).bind fun d1 =>
      some (r4, d1)
set_option maxRecDepth 20000 in
theorem l_X3_part (h : q_H) (pd pt : Nat) (d t : g_S) (a1 : Int32) {r : Int32} {d' : g_S} (hm : t_X3_part d t a1 = some (r, d')) (Gd : g3 pd d h) (Gt : g9 pt t h) (Et : g_P d 0 = some pt) (Ddt : ∀ a, f3 pd a → f9 pt a → False) : q_E (m_X3_part h pd a1) (fun x => x.1 = r ∧ g3 pd d' (x.2) ∧ g_P d' = g_P d ∧ ∀ a, ¬ (f3 pd a) → (x.2) a = h a) := by
  unfold t_X3_part at hm
  unfold m_X3_part
  have FR : ∀ a, ¬ (f3 pd a) → h a = h a := fun _ _ => rfl
  have Qd : g_P d = g_P d := rfl
  refine e_bd (gp3_0 Gd ((congrFun Qd 0).trans Et)) ?_
  obtain ⟨r2, e8, hm⟩ := q_b hm
  refine e_bd ((ca9 Gt).trans (l_X9_byteAt _ _ _ _ e8 Gt  )) ?_
  refine e_if hm (fun _ hm => ?_) (fun _ hm => ?_)
  · obtain ⟨x9, e9, e7, Gd, Rd, F⟩ := l_X3_part_52 pd pt Ddt _ _ _ _ _ _ hm Gd Gt ((congrFun Qd 0).trans Et)
    exact ⟨x9, e9, e7, Gd, Rd.trans Qd, fun a na => (F a na).trans (FR a na)⟩
  · refine e_if hm (fun _ hm => ?_) (fun _ hm => ?_)
    · obtain ⟨x9, e9, e7, Gd, Rd, F⟩ := l_X3_part_52 pd pt Ddt _ _ _ _ _ _ hm Gd Gt ((congrFun Qd 0).trans Et)
      exact ⟨x9, e9, e7, Gd, Rd.trans Qd, fun a na => (F a na).trans (FR a na)⟩
    · obtain ⟨r4, e8, hm⟩ := q_b hm
      refine e_bd ((ca3 Gd).trans (l_X3_behind _ _ _ _ _ _ _ _ e8 Gd Gt ((congrFun Qd 0).trans Et) Ddt)) ?_
      obtain ⟨r6, e8, hm⟩ := q_b hm
      refine e_bd ((ca3 Gd).trans (l_X3_numberIn _ _ _ _ _ _ _ e8 Gd Gt ((congrFun Qd 0).trans Et) Ddt)) ?_
      obtain ⟨d1, e8, hm⟩ := q_b hm
      have Gc := Gd
      obtain ⟨h9, e9, Gd, Rd, F⟩ := l_X3_add _ _ _ _ _ _ e8 Gd  
      have Qd := Rd.trans Qd
      refine e_bd ((ca3 Gc).trans e9) ?_
      have Gt := fr9 Gt (fun a ha => F a (fun hb => Ddt _ hb ha))
      have FR := fun a na => (F a (fun hb => na (hb))).trans (FR a na)
      have hq0 := Option.some.inj hm
      clear hm
      obtain ⟨rfl, rfl⟩ := Prod.mk.inj hq0
      exact ⟨_, rfl, rfl, Gd, Qd, FR⟩
def t_X3_start_51 (k9 : g_S → g_S → Int32 → Int32 → Option g_S) (d t : g_S) (x2 : Int32) (s0 : Int32) : Option g_S :=
  k9 d t s0 ((x2 + (1 : Int32)))
set_option maxRecDepth 20000 in
theorem l_X3_start_51 (pd pt : Nat) (Ddt : ∀ a, f3 pd a → f9 pt a → False) {d' : g_S} {k9 : g_S → g_S → Int32 → Int32 → Option g_S} {gk9 : q_H → Nat → Int32 → Int32 → Option q_H} (hk9 : ∀ (h : q_H) (d t : g_S) (x1 : Int32) (x2 : Int32), k9 d t x1 x2 = some d' → g3 pd d h → g9 pt t h → g_P d 0 = some pt → q_E (gk9 h pd x1 x2) (fun x => g3 pd d' (x) ∧ g_P d' = g_P d ∧ ∀ a, ¬ (f3 pd a) → (x) a = h a)) : ∀ (h : q_H) (d t : g_S) (x2 : Int32) (s0 : Int32), t_X3_start_51 k9 d t x2 s0 = some d' → g3 pd d h → g9 pt t h → g_P d 0 = some pt → q_E (m_X3_start_51 gk9 h pd x2 s0) (fun x => g3 pd d' (x) ∧ g_P d' = g_P d ∧ ∀ a, ¬ (f3 pd a) → (x) a = h a) := by
  intro h d t x2 s0 hm Gd Gt Et
  unfold t_X3_start_51 at hm
  unfold m_X3_start_51
  have FR : ∀ a, ¬ (f3 pd a) → h a = h a := fun _ _ => rfl
  have Qd : g_P d = g_P d := rfl
  obtain ⟨x9, e9, Gd, Rd, F⟩ := hk9 _ _ _ _ _ hm Gd Gt ((congrFun Qd 0).trans Et)
  exact ⟨x9, e9, Gd, Rd.trans Qd, fun a na => (F a na).trans (FR a na)⟩
def t_X3_start_58 (d t : g_S) : Option g_S :=
  let v11 := g_I t 1
  (t_X3_add d ((600 : Int32)) ((-1 : Int32)) v11).bind fun d3 =>
  let d4 := g_si d3 8 (0 : Int32)
  let d5 := g_si d4 5 (-1 : Int32)
  (t_X3_next d5).bind fun d6 =>
  some d6
set_option maxRecDepth 20000 in
theorem l_X3_start_58 (pd pt : Nat) (Ddt : ∀ a, f3 pd a → f9 pt a → False) {d' : g_S} : ∀ (h : q_H) (d t : g_S), t_X3_start_58 d t = some d' → g3 pd d h → g9 pt t h → g_P d 0 = some pt → q_E (m_X3_start_58 h pd) (fun x => g3 pd d' (x) ∧ g_P d' = g_P d ∧ ∀ a, ¬ (f3 pd a) → (x) a = h a) := by
  intro h d t  hm Gd Gt Et
  unfold t_X3_start_58 at hm
  unfold m_X3_start_58
  have FR : ∀ a, ¬ (f3 pd a) → h a = h a := fun _ _ => rfl
  have Qd : g_P d = g_P d := rfl
  refine e_bd (gp3_0 Gd ((congrFun Qd 0).trans Et)) ?_
  refine e_bd (gi9_1 Gt) ?_
  obtain ⟨d3, e8, hm⟩ := q_b hm
  have Gc := Gd
  obtain ⟨h13, e9, Gd, Rd, F⟩ := l_X3_add _ _ _ _ _ _ e8 Gd  
  have Qd := Rd.trans Qd
  refine e_bd ((ca3 Gc).trans e9) ?_
  have Gt := fr9 Gt (fun a ha => F a (fun hb => Ddt _ hb ha))
  have FR := fun a na => (F a (fun hb => na (hb))).trans (FR a na)
  refine e_pi (pi3_8 _ Gd) (fun h14 Gd F => ?_)
  have Gt := fr9 Gt (fun a ha => F a (fun hb => Ddt _ hb ha))
  have FR := fun a na => (F a (fun hb => na (hb))).trans (FR a na)
  refine e_pi (pi3_5 _ Gd) (fun h15 Gd F => ?_)
  have Gt := fr9 Gt (fun a ha => F a (fun hb => Ddt _ hb ha))
  have FR := fun a na => (F a (fun hb => na (hb))).trans (FR a na)
  obtain ⟨d6, e8, hm⟩ := q_b hm
  have Gc := Gd
  obtain ⟨h17, e9, Gd, Rd, F⟩ := l_X3_next _ _ _ e8 Gd  
  have Qd := Rd.trans Qd
  refine e_bd ((ca3 Gc).trans e9) ?_
  have Gt := fr9 Gt (fun a ha => F a (fun hb => Ddt _ hb ha))
  have FR := fun a na => (F a (fun hb => na (hb))).trans (FR a na)
  obtain rfl := Option.some.inj hm
  exact ⟨_, rfl, Gd, Qd, FR⟩
def t_X3_start_9  : Nat → g_S → g_S → Int32 → Int32 → Option g_S
  | 0, _, _, _, _ => none
  | n + 1, d, t, x1, x2 =>
    if (400 : Int32) ≤ x2 then
      t_X3_start_58 d t
    else
      let v3 := g_I t 1
      if v3 ≤ x1 then
        t_X3_start_58 d t
      else
        (t_X9_byteAt t x1).bind fun r5 =>
        if r5 = (32 : Int32) then
          t_X3_start_51 (t_X3_start_9 n) d t x2 ((x1 + (1 : Int32)))
        else
          (t_X3_part d t x1).bind fun (r7, d2) =>
          t_X3_start_51 (t_X3_start_9 n) d2 t x2 r7
set_option maxRecDepth 20000 in
theorem l_X3_start_9 (pd pt : Nat) (Ddt : ∀ a, f3 pd a → f9 pt a → False) {d' : g_S} : ∀ (n : Nat) (h : q_H) (d t : g_S) (x1 : Int32) (x2 : Int32), t_X3_start_9 n d t x1 x2 = some d' → g3 pd d h → g9 pt t h → g_P d 0 = some pt → q_E (m_X3_start_9 n h pd x1 x2) (fun x => g3 pd d' (x) ∧ g_P d' = g_P d ∧ ∀ a, ¬ (f3 pd a) → (x) a = h a) := by
  intro n
  induction n with
  | zero => intro h d t x1 x2 hm Gd Gt Et; cases hm
  | succ n ih =>
    intro h d t x1 x2 hm Gd Gt Et
    unfold t_X3_start_9 at hm
    unfold m_X3_start_9
    have FR : ∀ a, ¬ (f3 pd a) → h a = h a := fun _ _ => rfl
    have Qd : g_P d = g_P d := rfl
    refine e_if hm (fun _ hm => ?_) (fun _ hm => ?_)
    · obtain ⟨x9, e9, Gd, Rd, F⟩ := l_X3_start_58 pd pt Ddt _ _ _ hm Gd Gt ((congrFun Qd 0).trans Et)
      exact ⟨x9, e9, Gd, Rd.trans Qd, fun a na => (F a na).trans (FR a na)⟩
    · refine e_bd (gp3_0 Gd ((congrFun Qd 0).trans Et)) ?_
      refine e_bd (gi9_1 Gt) ?_
      refine e_if hm (fun _ hm => ?_) (fun _ hm => ?_)
      · obtain ⟨x9, e9, Gd, Rd, F⟩ := l_X3_start_58 pd pt Ddt _ _ _ hm Gd Gt ((congrFun Qd 0).trans Et)
        exact ⟨x9, e9, Gd, Rd.trans Qd, fun a na => (F a na).trans (FR a na)⟩
      · refine e_bd (gp3_0 Gd ((congrFun Qd 0).trans Et)) ?_
        obtain ⟨r5, e8, hm⟩ := q_b hm
        refine e_bd ((ca9 Gt).trans (l_X9_byteAt _ _ _ _ e8 Gt  )) ?_
        refine e_if hm (fun _ hm => ?_) (fun _ hm => ?_)
        · obtain ⟨x9, e9, Gd, Rd, F⟩ := l_X3_start_51 pd pt Ddt ih _ _ _ _ _ hm Gd Gt ((congrFun Qd 0).trans Et)
          exact ⟨x9, e9, Gd, Rd.trans Qd, fun a na => (F a na).trans (FR a na)⟩
        · obtain ⟨⟨r7, d2⟩, e8, hm⟩ := q_b hm
          have Gc := Gd
          obtain ⟨⟨r9, h8⟩, e9, e7, Gd, Rd, F⟩ := l_X3_part _ _ _ _ _ _ e8 Gd Gt ((congrFun Qd 0).trans Et) Ddt
          dsimp only at e7 Gd F
          subst e7
          have Qd := Rd.trans Qd
          refine e_bd ((ca3 Gc).trans e9) ?_
          have Gt := fr9 Gt (fun a ha => F a (fun hb => Ddt _ hb ha))
          have FR := fun a na => (F a (fun hb => na (hb))).trans (FR a na)
          obtain ⟨x9, e9, Gd, Rd, F⟩ := l_X3_start_51 pd pt Ddt ih _ _ _ _ _ hm Gd Gt ((congrFun Qd 0).trans Et)
          exact ⟨x9, e9, Gd, Rd.trans Qd, fun a na => (F a na).trans (FR a na)⟩
def t_X3_start (d t : g_S) : Option g_S :=
  let d1 := g_si d 4 (0 : Int32)
  t_X3_start_9 q_fu d1 t ((0 : Int32)) ((0 : Int32))
set_option maxRecDepth 20000 in
theorem l_X3_start (h : q_H) (pd pt : Nat) (d t : g_S) {d' : g_S} (hm : t_X3_start d t = some d') (Gd : g3 pd d h) (Gt : g9 pt t h) (Et : g_P d 0 = some pt) (Ddt : ∀ a, f3 pd a → f9 pt a → False) : q_E (m_X3_start h pd) (fun x => g3 pd d' (x) ∧ g_P d' = g_P d ∧ ∀ a, ¬ (f3 pd a) → (x) a = h a) := by
  unfold t_X3_start at hm
  unfold m_X3_start
  have FR : ∀ a, ¬ (f3 pd a) → h a = h a := fun _ _ => rfl
  have Qd : g_P d = g_P d := rfl
  refine e_pi (pi3_4 _ Gd) (fun h1 Gd F => ?_)
  have Gt := fr9 Gt (fun a ha => F a (fun hb => Ddt _ hb ha))
  have FR := fun a na => (F a (fun hb => na (hb))).trans (FR a na)
  obtain ⟨x9, e9, Gd, Rd, F⟩ := l_X3_start_9 pd pt Ddt _ _ _ _ _ _ hm Gd Gt ((congrFun Qd 0).trans Et)
  exact ⟨x9, e9, Gd, Rd.trans Qd, fun a na => (F a na).trans (FR a na)⟩
def t_X4_rowsWithAhead_38 (o : g_S) (x1 : Int32) (x2 : Int32) (s0 : Int32) : Option Int32 :=
  if s0 = 0 then
    some ((0 : Int32))
  else
    (q_ro x1).bind fun v2 =>
    (q_ro x2).bind fun v3 =>
    some ((v2 * v3))
set_option maxRecDepth 20000 in
theorem l_X4_rowsWithAhead_38 (po : Nat) {r : Int32} : ∀ (h : q_H) (o : g_S) (x1 : Int32) (x2 : Int32) (s0 : Int32), t_X4_rowsWithAhead_38 o x1 x2 s0 = some r → g4 po o h → m_X4_rowsWithAhead_38 h x1 x2 s0 = some r := by
  intro h o x1 x2 s0 hm Go 
  unfold t_X4_rowsWithAhead_38 at hm
  unfold m_X4_rowsWithAhead_38
  refine r_if _ _ hm (fun _ hm => ?_) (fun _ hm => ?_)
  · exact hm
  · refine r_bd hm (fun v2 hm => ?_)
    refine r_bd hm (fun v3 hm => ?_)
    exact hm
def t_X4_rowsWithAhead_37 (o : g_S) (x1 : Int32) (x2 : Int32) : Option Int32 :=
  t_X4_rowsWithAhead_38 o x1 x2 ((0 : Int32))
set_option maxRecDepth 20000 in
theorem l_X4_rowsWithAhead_37 (po : Nat) {r : Int32} : ∀ (h : q_H) (o : g_S) (x1 : Int32) (x2 : Int32), t_X4_rowsWithAhead_37 o x1 x2 = some r → g4 po o h → m_X4_rowsWithAhead_37 h x1 x2 = some r := by
  intro h o x1 x2 hm Go 
  unfold t_X4_rowsWithAhead_37 at hm
  unfold m_X4_rowsWithAhead_37
  exact l_X4_rowsWithAhead_38 po _ _ _ _ _ hm Go 
def t_X4_rowsWithAhead (o : g_S) (a1 : Int32) : Option Int32 :=
  let v1 := g_I o 3
  if a1 < 0 then
    t_X4_rowsWithAhead_37 o a1 (((v1 - (1 : Int32)) - a1))
  else
    if (8 : Int32) ≤ a1 then
      t_X4_rowsWithAhead_37 o a1 (((v1 - (1 : Int32)) - a1))
    else
      if ((v1 - (1 : Int32)) - a1) < 0 then
        t_X4_rowsWithAhead_37 o a1 (((v1 - (1 : Int32)) - a1))
      else
        if (8 : Int32) ≤ ((v1 - (1 : Int32)) - a1) then
          t_X4_rowsWithAhead_37 o a1 (((v1 - (1 : Int32)) - a1))
        else
          t_X4_rowsWithAhead_38 o a1 (((v1 - (1 : Int32)) - a1)) ((1 : Int32))
set_option maxRecDepth 20000 in
theorem l_X4_rowsWithAhead (h : q_H) (po : Nat) (o : g_S) (a1 : Int32) {r : Int32} (hm : t_X4_rowsWithAhead o a1 = some r) (Go : g4 po o h) : m_X4_rowsWithAhead h po a1 = some r := by
  unfold t_X4_rowsWithAhead at hm
  unfold m_X4_rowsWithAhead
  refine p_bd (gi4_3 Go) ?_
  refine r_if _ _ hm (fun _ hm => ?_) (fun _ hm => ?_)
  · exact l_X4_rowsWithAhead_37 po _ _ _ _ hm Go 
  · refine r_if _ _ hm (fun _ hm => ?_) (fun _ hm => ?_)
    · exact l_X4_rowsWithAhead_37 po _ _ _ _ hm Go 
    · refine r_if _ _ hm (fun _ hm => ?_) (fun _ hm => ?_)
      · exact l_X4_rowsWithAhead_37 po _ _ _ _ hm Go 
      · refine r_if _ _ hm (fun _ hm => ?_) (fun _ hm => ?_)
        · exact l_X4_rowsWithAhead_37 po _ _ _ _ hm Go 
        · exact l_X4_rowsWithAhead_38 po _ _ _ _ _ hm Go 
def t_X4_tipsBy_68 (k10 : g_S → Int32 → Int32 → Int32 → Int32 → Option Int32) (o : g_S) (x2 : Int32) (x3 : Int32) (x4 : Int32) (x5 : Int32) : Option Int32 :=
  k10 o x2 x3 x4 ((x5 + (1 : Int32)))
set_option maxRecDepth 20000 in
theorem l_X4_tipsBy_68 (po : Nat) {r : Int32} {k10 : g_S → Int32 → Int32 → Int32 → Int32 → Option Int32} {gk10 : q_H → Nat → Int32 → Int32 → Int32 → Int32 → Option Int32} (hk10 : ∀ (h : q_H) (o : g_S) (x2 : Int32) (x3 : Int32) (x4 : Int32) (x5 : Int32), k10 o x2 x3 x4 x5 = some r → g4 po o h → gk10 h po x2 x3 x4 x5 = some r) : ∀ (h : q_H) (o : g_S) (x2 : Int32) (x3 : Int32) (x4 : Int32) (x5 : Int32), t_X4_tipsBy_68 k10 o x2 x3 x4 x5 = some r → g4 po o h → m_X4_tipsBy_68 gk10 h po x2 x3 x4 x5 = some r := by
  intro h o x2 x3 x4 x5 hm Go 
  unfold t_X4_tipsBy_68 at hm
  unfold m_X4_tipsBy_68
  exact hk10 _ _ _ _ _ _ hm Go 
def t_X4_tipsBy_65 (k10 : g_S → Int32 → Int32 → Int32 → Int32 → Option Int32) (o : g_S) (x2 : Int32) (x3 : Int32) (x5 : Int32) (s0 : Int32) (s1 : Int32) : Option Int32 :=
  t_X4_tipsBy_68 k10 o x2 x3 ((s1 + s0)) x5
set_option maxRecDepth 20000 in
theorem l_X4_tipsBy_65 (po : Nat) {r : Int32} {k10 : g_S → Int32 → Int32 → Int32 → Int32 → Option Int32} {gk10 : q_H → Nat → Int32 → Int32 → Int32 → Int32 → Option Int32} (hk10 : ∀ (h : q_H) (o : g_S) (x2 : Int32) (x3 : Int32) (x4 : Int32) (x5 : Int32), k10 o x2 x3 x4 x5 = some r → g4 po o h → gk10 h po x2 x3 x4 x5 = some r) : ∀ (h : q_H) (o : g_S) (x2 : Int32) (x3 : Int32) (x5 : Int32) (s0 : Int32) (s1 : Int32), t_X4_tipsBy_65 k10 o x2 x3 x5 s0 s1 = some r → g4 po o h → m_X4_tipsBy_65 gk10 h po x2 x3 x5 s0 s1 = some r := by
  intro h o x2 x3 x5 s0 s1 hm Go 
  unfold t_X4_tipsBy_65 at hm
  unfold m_X4_tipsBy_65
  exact l_X4_tipsBy_68 po hk10 _ _ _ _ _ _ hm Go 
def t_X4_tipsBy_10  : Nat → g_S → Int32 → Int32 → Int32 → Int32 → Option Int32
  | 0, _, _, _, _, _ => none
  | n + 1, o, x2, x3, x4, x5 =>
    (t_X4_everyone o).bind fun r1 =>
    if r1 < x5 then
      some x4
    else
      if (x5 &&& x3) = 0 then
        (t_X4_outweighs o x5).bind fun r3 =>
        if r3 = 0 then
          (t_X4_outweighs o ((x5 ||| x3))).bind fun r5 =>
          if r5 = 0 then
            t_X4_tipsBy_68 (t_X4_tipsBy_10 n) o x2 x3 x4 x5
          else
            if x2 = 0 then
              t_X4_tipsBy_65 (t_X4_tipsBy_10 n) o x2 x3 x5 ((1 : Int32)) x4
            else
              (m_J6_bitCount_0f7a4 x5).bind fun r7 =>
              (t_X4_rowsWithAhead o r7).bind fun r9 =>
              t_X4_tipsBy_65 (t_X4_tipsBy_10 n) o x2 x3 x5 r9 x4
        else
          t_X4_tipsBy_68 (t_X4_tipsBy_10 n) o x2 x3 x4 x5
      else
        t_X4_tipsBy_68 (t_X4_tipsBy_10 n) o x2 x3 x4 x5
set_option maxRecDepth 20000 in
theorem l_X4_tipsBy_10 (po : Nat) {r : Int32} : ∀ (n : Nat) (h : q_H) (o : g_S) (x2 : Int32) (x3 : Int32) (x4 : Int32) (x5 : Int32), t_X4_tipsBy_10 n o x2 x3 x4 x5 = some r → g4 po o h → m_X4_tipsBy_10 n h po x2 x3 x4 x5 = some r := by
  intro n
  induction n with
  | zero => intro h o x2 x3 x4 x5 hm Go ; cases hm
  | succ n ih =>
    intro h o x2 x3 x4 x5 hm Go 
    unfold t_X4_tipsBy_10 at hm
    unfold m_X4_tipsBy_10
    obtain ⟨r1, e8, hm⟩ := q_b hm
    refine p_bd ((ca4 Go).trans (l_X4_everyone _ _ _ e8 Go  )) ?_
    refine r_if _ _ hm (fun _ hm => ?_) (fun _ hm => ?_)
    · exact hm
    · refine r_if _ _ hm (fun _ hm => ?_) (fun _ hm => ?_)
      · obtain ⟨r3, e8, hm⟩ := q_b hm
        refine p_bd ((ca4 Go).trans (l_X4_outweighs _ _ _ _ e8 Go  )) ?_
        refine r_if _ _ hm (fun _ hm => ?_) (fun _ hm => ?_)
        · obtain ⟨r5, e8, hm⟩ := q_b hm
          refine p_bd ((ca4 Go).trans (l_X4_outweighs _ _ _ _ e8 Go  )) ?_
          refine r_if _ _ hm (fun _ hm => ?_) (fun _ hm => ?_)
          · exact l_X4_tipsBy_68 po ih _ _ _ _ _ _ hm Go 
          · refine r_if _ _ hm (fun _ hm => ?_) (fun _ hm => ?_)
            · exact l_X4_tipsBy_65 po ih _ _ _ _ _ _ _ hm Go 
            · refine r_bd hm (fun r7 hm => ?_)
              obtain ⟨r9, e8, hm⟩ := q_b hm
              refine p_bd ((ca4 Go).trans (l_X4_rowsWithAhead _ _ _ _ e8 Go  )) ?_
              exact l_X4_tipsBy_65 po ih _ _ _ _ _ _ _ hm Go 
        · exact l_X4_tipsBy_68 po ih _ _ _ _ _ _ hm Go 
      · exact l_X4_tipsBy_68 po ih _ _ _ _ _ _ hm Go 
def t_X4_tipsBy (o : g_S) (a1 : Int32) (a2 : Int32) : Option Int32 :=
  t_X4_tipsBy_10 q_fu o a2 (((1 : Int32) <<< (a1 &&& 31))) ((0 : Int32)) ((0 : Int32))
set_option maxRecDepth 20000 in
theorem l_X4_tipsBy (h : q_H) (po : Nat) (o : g_S) (a1 : Int32) (a2 : Int32) {r : Int32} (hm : t_X4_tipsBy o a1 a2 = some r) (Go : g4 po o h) : m_X4_tipsBy h po a1 a2 = some r := by
  unfold t_X4_tipsBy at hm
  unfold m_X4_tipsBy
  exact l_X4_tipsBy_10 po _ _ _ _ _ _ _ hm Go 
def t_X5_read_50 (k16 : g_S → g_S → g_S → g_S → Int32 → Int32 → Option (Int32 × g_S × g_S × g_S)) (i d t o : g_S) (x3 : Int32) (s0 : Int32) : Option (Int32 × g_S × g_S × g_S) :=
  k16 i d t o s0 ((x3 + (1 : Int32)))
set_option maxRecDepth 20000 in
theorem l_X5_read_50 (pi pd pt po : Nat) (Did : ∀ a, f5 pi a → f3 pd a → False) (Dit : ∀ a, f5 pi a → f9 pt a → False) (Dio : ∀ a, f5 pi a → f4 po a → False) (Ddt : ∀ a, f3 pd a → f9 pt a → False) (Ddo : ∀ a, f3 pd a → f4 po a → False) (Dto : ∀ a, f9 pt a → f4 po a → False) {r : Int32} {i' d' o' : g_S} {k16 : g_S → g_S → g_S → g_S → Int32 → Int32 → Option (Int32 × g_S × g_S × g_S)} {gk16 : q_H → Nat → Nat → Int32 → Int32 → Option (Int32 × q_H)} (hk16 : ∀ (h : q_H) (i d t o : g_S) (x2 : Int32) (x3 : Int32), k16 i d t o x2 x3 = some (r, i', d', o') → g5 pi i h → g3 pd d h → g9 pt t h → g4 po o h → g_P i 0 = some pd → g_P d 0 = some pt → q_E (gk16 h pi po x2 x3) (fun x => x.1 = r ∧ g5 pi i' (x.2) ∧ g3 pd d' (x.2) ∧ g4 po o' (x.2) ∧ g_P i' = g_P i ∧ g_P d' = g_P d ∧ ∀ a, ¬ (f5 pi a ∨ f3 pd a ∨ f4 po a) → (x.2) a = h a)) : ∀ (h : q_H) (i d t o : g_S) (x3 : Int32) (s0 : Int32), t_X5_read_50 k16 i d t o x3 s0 = some (r, i', d', o') → g5 pi i h → g3 pd d h → g9 pt t h → g4 po o h → g_P i 0 = some pd → g_P d 0 = some pt → q_E (m_X5_read_50 gk16 h pi po x3 s0) (fun x => x.1 = r ∧ g5 pi i' (x.2) ∧ g3 pd d' (x.2) ∧ g4 po o' (x.2) ∧ g_P i' = g_P i ∧ g_P d' = g_P d ∧ ∀ a, ¬ (f5 pi a ∨ f3 pd a ∨ f4 po a) → (x.2) a = h a) := by
  intro h i d t o x3 s0 hm Gi Gd Gt Go Ed Et
  unfold t_X5_read_50 at hm
  unfold m_X5_read_50
  have FR : ∀ a, ¬ (f5 pi a ∨ f3 pd a ∨ f4 po a) → h a = h a := fun _ _ => rfl
  have Qi : g_P i = g_P i := rfl
  have Qd : g_P d = g_P d := rfl
  obtain ⟨x9, e9, e7, Gi, Gd, Go, Ri, Rd, F⟩ := hk16 _ _ _ _ _ _ _ hm Gi Gd Gt Go ((congrFun Qi 0).trans Ed) ((congrFun Qd 0).trans Et)
  exact ⟨x9, e9, e7, Gi, Gd, Go, Ri.trans Qi, Rd.trans Qd, fun a na => (F a na).trans (FR a na)⟩
def t_X5_read_49 (k16 : g_S → g_S → g_S → g_S → Int32 → Int32 → Option (Int32 × g_S × g_S × g_S)) (i d t o : g_S) (x3 : Int32) : Option (Int32 × g_S × g_S × g_S) :=
  t_X5_read_50 k16 i d t o x3 ((0 : Int32))
set_option maxRecDepth 20000 in
theorem l_X5_read_49 (pi pd pt po : Nat) (Did : ∀ a, f5 pi a → f3 pd a → False) (Dit : ∀ a, f5 pi a → f9 pt a → False) (Dio : ∀ a, f5 pi a → f4 po a → False) (Ddt : ∀ a, f3 pd a → f9 pt a → False) (Ddo : ∀ a, f3 pd a → f4 po a → False) (Dto : ∀ a, f9 pt a → f4 po a → False) {r : Int32} {i' d' o' : g_S} {k16 : g_S → g_S → g_S → g_S → Int32 → Int32 → Option (Int32 × g_S × g_S × g_S)} {gk16 : q_H → Nat → Nat → Int32 → Int32 → Option (Int32 × q_H)} (hk16 : ∀ (h : q_H) (i d t o : g_S) (x2 : Int32) (x3 : Int32), k16 i d t o x2 x3 = some (r, i', d', o') → g5 pi i h → g3 pd d h → g9 pt t h → g4 po o h → g_P i 0 = some pd → g_P d 0 = some pt → q_E (gk16 h pi po x2 x3) (fun x => x.1 = r ∧ g5 pi i' (x.2) ∧ g3 pd d' (x.2) ∧ g4 po o' (x.2) ∧ g_P i' = g_P i ∧ g_P d' = g_P d ∧ ∀ a, ¬ (f5 pi a ∨ f3 pd a ∨ f4 po a) → (x.2) a = h a)) : ∀ (h : q_H) (i d t o : g_S) (x3 : Int32), t_X5_read_49 k16 i d t o x3 = some (r, i', d', o') → g5 pi i h → g3 pd d h → g9 pt t h → g4 po o h → g_P i 0 = some pd → g_P d 0 = some pt → q_E (m_X5_read_49 gk16 h pi po x3) (fun x => x.1 = r ∧ g5 pi i' (x.2) ∧ g3 pd d' (x.2) ∧ g4 po o' (x.2) ∧ g_P i' = g_P i ∧ g_P d' = g_P d ∧ ∀ a, ¬ (f5 pi a ∨ f3 pd a ∨ f4 po a) → (x.2) a = h a) := by
  intro h i d t o x3 hm Gi Gd Gt Go Ed Et
  unfold t_X5_read_49 at hm
  unfold m_X5_read_49
  have FR : ∀ a, ¬ (f5 pi a ∨ f3 pd a ∨ f4 po a) → h a = h a := fun _ _ => rfl
  have Qi : g_P i = g_P i := rfl
  have Qd : g_P d = g_P d := rfl
  obtain ⟨x9, e9, e7, Gi, Gd, Go, Ri, Rd, F⟩ := l_X5_read_50 pi pd pt po Did Dit Dio Ddt Ddo Dto hk16 _ _ _ _ _ _ _ hm Gi Gd Gt Go ((congrFun Qi 0).trans Ed) ((congrFun Qd 0).trans Et)
  exact ⟨x9, e9, e7, Gi, Gd, Go, Ri.trans Qi, Rd.trans Qd, fun a na => (F a na).trans (FR a na)⟩
def t_X5_read_57 (i d t o : g_S) : Option (Int32 × g_S × g_S × g_S) :=
  let v13 := g_I d 8
  some (v13, i, d, o)
set_option maxRecDepth 20000 in
theorem l_X5_read_57 (pi pd pt po : Nat) (Did : ∀ a, f5 pi a → f3 pd a → False) (Dit : ∀ a, f5 pi a → f9 pt a → False) (Dio : ∀ a, f5 pi a → f4 po a → False) (Ddt : ∀ a, f3 pd a → f9 pt a → False) (Ddo : ∀ a, f3 pd a → f4 po a → False) (Dto : ∀ a, f9 pt a → f4 po a → False) {r : Int32} {i' d' o' : g_S} : ∀ (h : q_H) (i d t o : g_S), t_X5_read_57 i d t o = some (r, i', d', o') → g5 pi i h → g3 pd d h → g9 pt t h → g4 po o h → g_P i 0 = some pd → g_P d 0 = some pt → q_E (m_X5_read_57 h pi) (fun x => x.1 = r ∧ g5 pi i' (x.2) ∧ g3 pd d' (x.2) ∧ g4 po o' (x.2) ∧ g_P i' = g_P i ∧ g_P d' = g_P d ∧ ∀ a, ¬ (f5 pi a ∨ f3 pd a ∨ f4 po a) → (x.2) a = h a) := by
  intro h i d t o  hm Gi Gd Gt Go Ed Et
  unfold t_X5_read_57 at hm
  unfold m_X5_read_57
  have FR : ∀ a, ¬ (f5 pi a ∨ f3 pd a ∨ f4 po a) → h a = h a := fun _ _ => rfl
  have Qi : g_P i = g_P i := rfl
  have Qd : g_P d = g_P d := rfl
  refine e_bd (gp5_0 Gi ((congrFun Qi 0).trans Ed)) ?_
  refine e_bd (gi3_8 Gd) ?_
  have hq0 := Option.some.inj hm
  clear hm
  obtain ⟨rfl, hq1⟩ := Prod.mk.inj hq0
  obtain ⟨rfl, hq2⟩ := Prod.mk.inj hq1
  obtain ⟨rfl, rfl⟩ := Prod.mk.inj hq2
  exact ⟨_, rfl, rfl, Gi, Gd, Go, Qi, Qd, FR⟩
def t_X5_read_16  : Nat → g_S → g_S → g_S → g_S → Int32 → Int32 → Option (Int32 × g_S × g_S × g_S)
  | 0, _, _, _, _, _, _ => none
  | n + 1, i, d, t, o, x2, x3 =>
    if x2 = 0 then
      t_X5_read_57 i d t o
    else
      if (40 : Int32) < x3 then
        t_X5_read_57 i d t o
      else
        (t_X5_readClause i d o x3).bind fun (r5, i3, d4, o5) =>
        if r5 = 0 then
          t_X5_read_49 (t_X5_read_16 n) i3 d4 t o5 x3
        else
          (t_X3_goesOn d4).bind fun (r9, d6) =>
          if r9 = 0 then
            t_X5_read_49 (t_X5_read_16 n) i3 d6 t o5 x3
          else
            t_X5_read_50 (t_X5_read_16 n) i3 d6 t o5 x3 ((1 : Int32))
set_option maxRecDepth 20000 in
theorem l_X5_read_16 (pi pd pt po : Nat) (Did : ∀ a, f5 pi a → f3 pd a → False) (Dit : ∀ a, f5 pi a → f9 pt a → False) (Dio : ∀ a, f5 pi a → f4 po a → False) (Ddt : ∀ a, f3 pd a → f9 pt a → False) (Ddo : ∀ a, f3 pd a → f4 po a → False) (Dto : ∀ a, f9 pt a → f4 po a → False) {r : Int32} {i' d' o' : g_S} : ∀ (n : Nat) (h : q_H) (i d t o : g_S) (x2 : Int32) (x3 : Int32), t_X5_read_16 n i d t o x2 x3 = some (r, i', d', o') → g5 pi i h → g3 pd d h → g9 pt t h → g4 po o h → g_P i 0 = some pd → g_P d 0 = some pt → q_E (m_X5_read_16 n h pi po x2 x3) (fun x => x.1 = r ∧ g5 pi i' (x.2) ∧ g3 pd d' (x.2) ∧ g4 po o' (x.2) ∧ g_P i' = g_P i ∧ g_P d' = g_P d ∧ ∀ a, ¬ (f5 pi a ∨ f3 pd a ∨ f4 po a) → (x.2) a = h a) := by
  intro n
  induction n with
  | zero => intro h i d t o x2 x3 hm Gi Gd Gt Go Ed Et; cases hm
  | succ n ih =>
    intro h i d t o x2 x3 hm Gi Gd Gt Go Ed Et
    unfold t_X5_read_16 at hm
    unfold m_X5_read_16
    have FR : ∀ a, ¬ (f5 pi a ∨ f3 pd a ∨ f4 po a) → h a = h a := fun _ _ => rfl
    have Qi : g_P i = g_P i := rfl
    have Qd : g_P d = g_P d := rfl
    refine e_if hm (fun _ hm => ?_) (fun _ hm => ?_)
    · obtain ⟨x9, e9, e7, Gi, Gd, Go, Ri, Rd, F⟩ := l_X5_read_57 pi pd pt po Did Dit Dio Ddt Ddo Dto _ _ _ _ _ hm Gi Gd Gt Go ((congrFun Qi 0).trans Ed) ((congrFun Qd 0).trans Et)
      exact ⟨x9, e9, e7, Gi, Gd, Go, Ri.trans Qi, Rd.trans Qd, fun a na => (F a na).trans (FR a na)⟩
    · refine e_if hm (fun _ hm => ?_) (fun _ hm => ?_)
      · obtain ⟨x9, e9, e7, Gi, Gd, Go, Ri, Rd, F⟩ := l_X5_read_57 pi pd pt po Did Dit Dio Ddt Ddo Dto _ _ _ _ _ hm Gi Gd Gt Go ((congrFun Qi 0).trans Ed) ((congrFun Qd 0).trans Et)
        exact ⟨x9, e9, e7, Gi, Gd, Go, Ri.trans Qi, Rd.trans Qd, fun a na => (F a na).trans (FR a na)⟩
      · obtain ⟨⟨r5, i3, d4, o5⟩, e8, hm⟩ := q_b hm
        have Gc := Gi
        obtain ⟨⟨r9, h6⟩, e9, e7, Gi, Gd, Go, Ri, Rd, F⟩ := l_X5_readClause _ _ _ _ _ _ _ _ e8 Gi Gd Go ((congrFun Qi 0).trans Ed) Did Dio Ddo
        dsimp only at e7 Gi Gd Go F
        subst e7
        have Qi := Ri.trans Qi
        have Qd := Rd.trans Qd
        refine e_bd ((ca5 Gc).trans e9) ?_
        have Gt := fr9 Gt (fun a ha => F a (fun hq => hq.elim (fun hb => Dit _ hb ha) (fun hq => hq.elim (fun hb => Ddt _ hb ha) (fun hb => Dto _ ha hb))))
        have FR := fun a na => (F a (fun hq => hq.elim (fun hb => na (Or.inl hb)) (fun hq => hq.elim (fun hb => na (Or.inr (Or.inl hb))) (fun hb => na (Or.inr (Or.inr (hb))))))).trans (FR a na)
        refine e_if hm (fun _ hm => ?_) (fun _ hm => ?_)
        · obtain ⟨x9, e9, e7, Gi, Gd, Go, Ri, Rd, F⟩ := l_X5_read_49 pi pd pt po Did Dit Dio Ddt Ddo Dto ih _ _ _ _ _ _ hm Gi Gd Gt Go ((congrFun Qi 0).trans Ed) ((congrFun Qd 0).trans Et)
          exact ⟨x9, e9, e7, Gi, Gd, Go, Ri.trans Qi, Rd.trans Qd, fun a na => (F a na).trans (FR a na)⟩
        · refine e_bd (gp5_0 Gi ((congrFun Qi 0).trans Ed)) ?_
          obtain ⟨⟨r9, d6⟩, e8, hm⟩ := q_b hm
          have Gc := Gd
          obtain ⟨⟨r9, h10⟩, e9, e7, Gd, Rd, F⟩ := l_X3_goesOn _ _ _ e8 Gd  
          dsimp only at e7 Gd F
          subst e7
          have Qd := Rd.trans Qd
          refine e_bd ((ca3 Gc).trans e9) ?_
          have Gi := fr5 Gi (fun a ha => F a (fun hb => Did _ ha hb))
          have Gt := fr9 Gt (fun a ha => F a (fun hb => Ddt _ hb ha))
          have Go := fr4 Go (fun a ha => F a (fun hb => Ddo _ hb ha))
          have FR := fun a na => (F a (fun hb => na (Or.inr (Or.inl hb)))).trans (FR a na)
          refine e_if hm (fun _ hm => ?_) (fun _ hm => ?_)
          · obtain ⟨x9, e9, e7, Gi, Gd, Go, Ri, Rd, F⟩ := l_X5_read_49 pi pd pt po Did Dit Dio Ddt Ddo Dto ih _ _ _ _ _ _ hm Gi Gd Gt Go ((congrFun Qi 0).trans Ed) ((congrFun Qd 0).trans Et)
            exact ⟨x9, e9, e7, Gi, Gd, Go, Ri.trans Qi, Rd.trans Qd, fun a na => (F a na).trans (FR a na)⟩
          · obtain ⟨x9, e9, e7, Gi, Gd, Go, Ri, Rd, F⟩ := l_X5_read_50 pi pd pt po Did Dit Dio Ddt Ddo Dto ih _ _ _ _ _ _ _ hm Gi Gd Gt Go ((congrFun Qi 0).trans Ed) ((congrFun Qd 0).trans Et)
            exact ⟨x9, e9, e7, Gi, Gd, Go, Ri.trans Qi, Rd.trans Qd, fun a na => (F a na).trans (FR a na)⟩
def t_X5_read (i d t o : g_S) : Option (Int32 × g_S × g_S × g_S) :=
  let i1 := g_si i 1 (0 : Int32)
  (t_X3_start d t).bind fun d2 =>
  t_X5_read_16 q_fu i1 d2 t o ((1 : Int32)) ((0 : Int32))
set_option maxRecDepth 20000 in
theorem l_X5_read (h : q_H) (pi pd pt po : Nat) (i d t o : g_S) {r : Int32} {i' d' o' : g_S} (hm : t_X5_read i d t o = some (r, i', d', o')) (Gi : g5 pi i h) (Gd : g3 pd d h) (Gt : g9 pt t h) (Go : g4 po o h) (Ed : g_P i 0 = some pd) (Et : g_P d 0 = some pt) (Did : ∀ a, f5 pi a → f3 pd a → False) (Dit : ∀ a, f5 pi a → f9 pt a → False) (Dio : ∀ a, f5 pi a → f4 po a → False) (Ddt : ∀ a, f3 pd a → f9 pt a → False) (Ddo : ∀ a, f3 pd a → f4 po a → False) (Dto : ∀ a, f9 pt a → f4 po a → False) : q_E (m_X5_read h pi po) (fun x => x.1 = r ∧ g5 pi i' (x.2) ∧ g3 pd d' (x.2) ∧ g4 po o' (x.2) ∧ g_P i' = g_P i ∧ g_P d' = g_P d ∧ ∀ a, ¬ (f5 pi a ∨ f3 pd a ∨ f4 po a) → (x.2) a = h a) := by
  unfold t_X5_read at hm
  unfold m_X5_read
  have FR : ∀ a, ¬ (f5 pi a ∨ f3 pd a ∨ f4 po a) → h a = h a := fun _ _ => rfl
  have Qi : g_P i = g_P i := rfl
  have Qd : g_P d = g_P d := rfl
  refine e_pi (pi5_1 _ Gi) (fun h1 Gi F => ?_)
  have Gd := fr3 Gd (fun a ha => F a (fun hb => Did _ hb ha))
  have Gt := fr9 Gt (fun a ha => F a (fun hb => Dit _ hb ha))
  have Go := fr4 Go (fun a ha => F a (fun hb => Dio _ hb ha))
  have FR := fun a na => (F a (fun hb => na (Or.inl hb))).trans (FR a na)
  refine e_bd (gp5_0 Gi ((congrFun Qi 0).trans Ed)) ?_
  obtain ⟨d2, e8, hm⟩ := q_b hm
  have Gc := Gd
  obtain ⟨h4, e9, Gd, Rd, F⟩ := l_X3_start _ _ _ _ _ e8 Gd Gt ((congrFun Qd 0).trans Et) Ddt
  have Qd := Rd.trans Qd
  refine e_bd ((ca3 Gc).trans e9) ?_
  have Gi := fr5 Gi (fun a ha => F a (fun hb => Did _ ha hb))
  have Gt := fr9 Gt (fun a ha => F a (fun hb => Ddt _ hb ha))
  have Go := fr4 Go (fun a ha => F a (fun hb => Ddo _ hb ha))
  have FR := fun a na => (F a (fun hb => na (Or.inr (Or.inl hb)))).trans (FR a na)
  obtain ⟨x9, e9, e7, Gi, Gd, Go, Ri, Rd, F⟩ := l_X5_read_16 pi pd pt po Did Dit Dio Ddt Ddo Dto _ _ _ _ _ _ _ _ hm Gi Gd Gt Go ((congrFun Qi 0).trans Ed) ((congrFun Qd 0).trans Et)
  exact ⟨x9, e9, e7, Gi, Gd, Go, Ri.trans Qi, Rd.trans Qd, fun a na => (F a na).trans (FR a na)⟩
def t_X7_read_59 (k26 : g_S → g_S → g_S → Int32 → Int32 → Option (Int32 × g_S × g_S)) (j d t : g_S) (x2 : Int32) (s0 : Int32) : Option (Int32 × g_S × g_S) :=
  k26 j d t s0 ((x2 + (1 : Int32)))
set_option maxRecDepth 20000 in
theorem l_X7_read_59 (pj pd pt : Nat) (Djd : ∀ a, f7 pj a → f3 pd a → False) (Djt : ∀ a, f7 pj a → f9 pt a → False) (Ddt : ∀ a, f3 pd a → f9 pt a → False) {r : Int32} {j' d' : g_S} {k26 : g_S → g_S → g_S → Int32 → Int32 → Option (Int32 × g_S × g_S)} {gk26 : q_H → Nat → Int32 → Int32 → Option (Int32 × q_H)} (hk26 : ∀ (h : q_H) (j d t : g_S) (x1 : Int32) (x2 : Int32), k26 j d t x1 x2 = some (r, j', d') → g7 pj j h → g3 pd d h → g9 pt t h → g_P j 0 = some pd → g_P d 0 = some pt → q_E (gk26 h pj x1 x2) (fun x => x.1 = r ∧ g7 pj j' (x.2) ∧ g3 pd d' (x.2) ∧ g_P j' = g_P j ∧ g_P d' = g_P d ∧ ∀ a, ¬ (f7 pj a ∨ f3 pd a) → (x.2) a = h a)) : ∀ (h : q_H) (j d t : g_S) (x2 : Int32) (s0 : Int32), t_X7_read_59 k26 j d t x2 s0 = some (r, j', d') → g7 pj j h → g3 pd d h → g9 pt t h → g_P j 0 = some pd → g_P d 0 = some pt → q_E (m_X7_read_59 gk26 h pj x2 s0) (fun x => x.1 = r ∧ g7 pj j' (x.2) ∧ g3 pd d' (x.2) ∧ g_P j' = g_P j ∧ g_P d' = g_P d ∧ ∀ a, ¬ (f7 pj a ∨ f3 pd a) → (x.2) a = h a) := by
  intro h j d t x2 s0 hm Gj Gd Gt Ed Et
  unfold t_X7_read_59 at hm
  unfold m_X7_read_59
  have FR : ∀ a, ¬ (f7 pj a ∨ f3 pd a) → h a = h a := fun _ _ => rfl
  have Qj : g_P j = g_P j := rfl
  have Qd : g_P d = g_P d := rfl
  obtain ⟨x9, e9, e7, Gj, Gd, Rj, Rd, F⟩ := hk26 _ _ _ _ _ _ hm Gj Gd Gt ((congrFun Qj 0).trans Ed) ((congrFun Qd 0).trans Et)
  exact ⟨x9, e9, e7, Gj, Gd, Rj.trans Qj, Rd.trans Qd, fun a na => (F a na).trans (FR a na)⟩
def t_X7_read_58 (k26 : g_S → g_S → g_S → Int32 → Int32 → Option (Int32 × g_S × g_S)) (j d t : g_S) (x2 : Int32) : Option (Int32 × g_S × g_S) :=
  t_X7_read_59 k26 j d t x2 ((0 : Int32))
set_option maxRecDepth 20000 in
theorem l_X7_read_58 (pj pd pt : Nat) (Djd : ∀ a, f7 pj a → f3 pd a → False) (Djt : ∀ a, f7 pj a → f9 pt a → False) (Ddt : ∀ a, f3 pd a → f9 pt a → False) {r : Int32} {j' d' : g_S} {k26 : g_S → g_S → g_S → Int32 → Int32 → Option (Int32 × g_S × g_S)} {gk26 : q_H → Nat → Int32 → Int32 → Option (Int32 × q_H)} (hk26 : ∀ (h : q_H) (j d t : g_S) (x1 : Int32) (x2 : Int32), k26 j d t x1 x2 = some (r, j', d') → g7 pj j h → g3 pd d h → g9 pt t h → g_P j 0 = some pd → g_P d 0 = some pt → q_E (gk26 h pj x1 x2) (fun x => x.1 = r ∧ g7 pj j' (x.2) ∧ g3 pd d' (x.2) ∧ g_P j' = g_P j ∧ g_P d' = g_P d ∧ ∀ a, ¬ (f7 pj a ∨ f3 pd a) → (x.2) a = h a)) : ∀ (h : q_H) (j d t : g_S) (x2 : Int32), t_X7_read_58 k26 j d t x2 = some (r, j', d') → g7 pj j h → g3 pd d h → g9 pt t h → g_P j 0 = some pd → g_P d 0 = some pt → q_E (m_X7_read_58 gk26 h pj x2) (fun x => x.1 = r ∧ g7 pj j' (x.2) ∧ g3 pd d' (x.2) ∧ g_P j' = g_P j ∧ g_P d' = g_P d ∧ ∀ a, ¬ (f7 pj a ∨ f3 pd a) → (x.2) a = h a) := by
  intro h j d t x2 hm Gj Gd Gt Ed Et
  unfold t_X7_read_58 at hm
  unfold m_X7_read_58
  have FR : ∀ a, ¬ (f7 pj a ∨ f3 pd a) → h a = h a := fun _ _ => rfl
  have Qj : g_P j = g_P j := rfl
  have Qd : g_P d = g_P d := rfl
  obtain ⟨x9, e9, e7, Gj, Gd, Rj, Rd, F⟩ := l_X7_read_59 pj pd pt Djd Djt Ddt hk26 _ _ _ _ _ _ hm Gj Gd Gt ((congrFun Qj 0).trans Ed) ((congrFun Qd 0).trans Et)
  exact ⟨x9, e9, e7, Gj, Gd, Rj.trans Qj, Rd.trans Qd, fun a na => (F a na).trans (FR a na)⟩
def t_X7_read_66 (j d t : g_S) : Option (Int32 × g_S × g_S) :=
  (t_X7_mark j).bind fun j8 =>
  let v17 := g_I d 8
  some (v17, j8, d)
set_option maxRecDepth 20000 in
theorem l_X7_read_66 (pj pd pt : Nat) (Djd : ∀ a, f7 pj a → f3 pd a → False) (Djt : ∀ a, f7 pj a → f9 pt a → False) (Ddt : ∀ a, f3 pd a → f9 pt a → False) {r : Int32} {j' d' : g_S} : ∀ (h : q_H) (j d t : g_S), t_X7_read_66 j d t = some (r, j', d') → g7 pj j h → g3 pd d h → g9 pt t h → g_P j 0 = some pd → g_P d 0 = some pt → q_E (m_X7_read_66 h pj) (fun x => x.1 = r ∧ g7 pj j' (x.2) ∧ g3 pd d' (x.2) ∧ g_P j' = g_P j ∧ g_P d' = g_P d ∧ ∀ a, ¬ (f7 pj a ∨ f3 pd a) → (x.2) a = h a) := by
  intro h j d t  hm Gj Gd Gt Ed Et
  unfold t_X7_read_66 at hm
  unfold m_X7_read_66
  have FR : ∀ a, ¬ (f7 pj a ∨ f3 pd a) → h a = h a := fun _ _ => rfl
  have Qj : g_P j = g_P j := rfl
  have Qd : g_P d = g_P d := rfl
  obtain ⟨j8, e8, hm⟩ := q_b hm
  have Gc := Gj
  obtain ⟨h15, e9, Gj, Rj, F⟩ := l_X7_mark _ _ _ e8 Gj  
  have Qj := Rj.trans Qj
  refine e_bd ((ca7 Gc).trans e9) ?_
  have Gd := fr3 Gd (fun a ha => F a (fun hb => Djd _ hb ha))
  have Gt := fr9 Gt (fun a ha => F a (fun hb => Djt _ hb ha))
  have FR := fun a na => (F a (fun hb => na (Or.inl hb))).trans (FR a na)
  refine e_bd (gp7_0 Gj ((congrFun Qj 0).trans Ed)) ?_
  refine e_bd (gi3_8 Gd) ?_
  have hq0 := Option.some.inj hm
  clear hm
  obtain ⟨rfl, hq1⟩ := Prod.mk.inj hq0
  obtain ⟨rfl, rfl⟩ := Prod.mk.inj hq1
  exact ⟨_, rfl, rfl, Gj, Gd, Qj, Qd, FR⟩
def t_X7_read_26  : Nat → g_S → g_S → g_S → Int32 → Int32 → Option (Int32 × g_S × g_S)
  | 0, _, _, _, _, _ => none
  | n + 1, j, d, t, x1, x2 =>
    if x1 = 0 then
      t_X7_read_66 j d t
    else
      if (12 : Int32) < x2 then
        t_X7_read_66 j d t
      else
        (t_X7_readClause j d x2).bind fun (r7, j5, d6) =>
        if r7 = 0 then
          t_X7_read_58 (t_X7_read_26 n) j5 d6 t x2
        else
          (t_X3_goesOn d6).bind fun (r11, d7) =>
          if r11 = 0 then
            t_X7_read_58 (t_X7_read_26 n) j5 d7 t x2
          else
            t_X7_read_59 (t_X7_read_26 n) j5 d7 t x2 ((1 : Int32))
set_option maxRecDepth 20000 in
theorem l_X7_read_26 (pj pd pt : Nat) (Djd : ∀ a, f7 pj a → f3 pd a → False) (Djt : ∀ a, f7 pj a → f9 pt a → False) (Ddt : ∀ a, f3 pd a → f9 pt a → False) {r : Int32} {j' d' : g_S} : ∀ (n : Nat) (h : q_H) (j d t : g_S) (x1 : Int32) (x2 : Int32), t_X7_read_26 n j d t x1 x2 = some (r, j', d') → g7 pj j h → g3 pd d h → g9 pt t h → g_P j 0 = some pd → g_P d 0 = some pt → q_E (m_X7_read_26 n h pj x1 x2) (fun x => x.1 = r ∧ g7 pj j' (x.2) ∧ g3 pd d' (x.2) ∧ g_P j' = g_P j ∧ g_P d' = g_P d ∧ ∀ a, ¬ (f7 pj a ∨ f3 pd a) → (x.2) a = h a) := by
  intro n
  induction n with
  | zero => intro h j d t x1 x2 hm Gj Gd Gt Ed Et; cases hm
  | succ n ih =>
    intro h j d t x1 x2 hm Gj Gd Gt Ed Et
    unfold t_X7_read_26 at hm
    unfold m_X7_read_26
    have FR : ∀ a, ¬ (f7 pj a ∨ f3 pd a) → h a = h a := fun _ _ => rfl
    have Qj : g_P j = g_P j := rfl
    have Qd : g_P d = g_P d := rfl
    refine e_if hm (fun _ hm => ?_) (fun _ hm => ?_)
    · obtain ⟨x9, e9, e7, Gj, Gd, Rj, Rd, F⟩ := l_X7_read_66 pj pd pt Djd Djt Ddt _ _ _ _ hm Gj Gd Gt ((congrFun Qj 0).trans Ed) ((congrFun Qd 0).trans Et)
      exact ⟨x9, e9, e7, Gj, Gd, Rj.trans Qj, Rd.trans Qd, fun a na => (F a na).trans (FR a na)⟩
    · refine e_if hm (fun _ hm => ?_) (fun _ hm => ?_)
      · obtain ⟨x9, e9, e7, Gj, Gd, Rj, Rd, F⟩ := l_X7_read_66 pj pd pt Djd Djt Ddt _ _ _ _ hm Gj Gd Gt ((congrFun Qj 0).trans Ed) ((congrFun Qd 0).trans Et)
        exact ⟨x9, e9, e7, Gj, Gd, Rj.trans Qj, Rd.trans Qd, fun a na => (F a na).trans (FR a na)⟩
      · obtain ⟨⟨r7, j5, d6⟩, e8, hm⟩ := q_b hm
        have Gc := Gj
        obtain ⟨⟨r9, h8⟩, e9, e7, Gj, Gd, Rj, Rd, F⟩ := l_X7_readClause _ _ _ _ _ _ e8 Gj Gd ((congrFun Qj 0).trans Ed) Djd
        dsimp only at e7 Gj Gd F
        subst e7
        have Qj := Rj.trans Qj
        have Qd := Rd.trans Qd
        refine e_bd ((ca7 Gc).trans e9) ?_
        have Gt := fr9 Gt (fun a ha => F a (fun hq => hq.elim (fun hb => Djt _ hb ha) (fun hb => Ddt _ hb ha)))
        have FR := fun a na => (F a (fun hq => hq.elim (fun hb => na (Or.inl hb)) (fun hb => na (Or.inr (hb))))).trans (FR a na)
        refine e_if hm (fun _ hm => ?_) (fun _ hm => ?_)
        · obtain ⟨x9, e9, e7, Gj, Gd, Rj, Rd, F⟩ := l_X7_read_58 pj pd pt Djd Djt Ddt ih _ _ _ _ _ hm Gj Gd Gt ((congrFun Qj 0).trans Ed) ((congrFun Qd 0).trans Et)
          exact ⟨x9, e9, e7, Gj, Gd, Rj.trans Qj, Rd.trans Qd, fun a na => (F a na).trans (FR a na)⟩
        · refine e_bd (gp7_0 Gj ((congrFun Qj 0).trans Ed)) ?_
          obtain ⟨⟨r11, d7⟩, e8, hm⟩ := q_b hm
          have Gc := Gd
          obtain ⟨⟨r9, h12⟩, e9, e7, Gd, Rd, F⟩ := l_X3_goesOn _ _ _ e8 Gd  
          dsimp only at e7 Gd F
          subst e7
          have Qd := Rd.trans Qd
          refine e_bd ((ca3 Gc).trans e9) ?_
          have Gj := fr7 Gj (fun a ha => F a (fun hb => Djd _ ha hb))
          have Gt := fr9 Gt (fun a ha => F a (fun hb => Ddt _ hb ha))
          have FR := fun a na => (F a (fun hb => na (Or.inr (hb)))).trans (FR a na)
          refine e_if hm (fun _ hm => ?_) (fun _ hm => ?_)
          · obtain ⟨x9, e9, e7, Gj, Gd, Rj, Rd, F⟩ := l_X7_read_58 pj pd pt Djd Djt Ddt ih _ _ _ _ _ hm Gj Gd Gt ((congrFun Qj 0).trans Ed) ((congrFun Qd 0).trans Et)
            exact ⟨x9, e9, e7, Gj, Gd, Rj.trans Qj, Rd.trans Qd, fun a na => (F a na).trans (FR a na)⟩
          · obtain ⟨x9, e9, e7, Gj, Gd, Rj, Rd, F⟩ := l_X7_read_59 pj pd pt Djd Djt Ddt ih _ _ _ _ _ _ hm Gj Gd Gt ((congrFun Qj 0).trans Ed) ((congrFun Qd 0).trans Et)
            exact ⟨x9, e9, e7, Gj, Gd, Rj.trans Qj, Rd.trans Qd, fun a na => (F a na).trans (FR a na)⟩
def t_X7_read (j d t : g_S) : Option (Int32 × g_S × g_S) :=
  let j1 := g_si j 2 (0 : Int32)
  let j2 := g_si j1 4 (0 : Int32)
  let j3 := g_si j2 8 (0 : Int32)
  (t_X3_start d t).bind fun d4 =>
  t_X7_read_26 q_fu j3 d4 t ((1 : Int32)) ((0 : Int32))
set_option maxRecDepth 20000 in
theorem l_X7_read (h : q_H) (pj pd pt : Nat) (j d t : g_S) {r : Int32} {j' d' : g_S} (hm : t_X7_read j d t = some (r, j', d')) (Gj : g7 pj j h) (Gd : g3 pd d h) (Gt : g9 pt t h) (Ed : g_P j 0 = some pd) (Et : g_P d 0 = some pt) (Djd : ∀ a, f7 pj a → f3 pd a → False) (Djt : ∀ a, f7 pj a → f9 pt a → False) (Ddt : ∀ a, f3 pd a → f9 pt a → False) : q_E (m_X7_read h pj) (fun x => x.1 = r ∧ g7 pj j' (x.2) ∧ g3 pd d' (x.2) ∧ g_P j' = g_P j ∧ g_P d' = g_P d ∧ ∀ a, ¬ (f7 pj a ∨ f3 pd a) → (x.2) a = h a) := by
  unfold t_X7_read at hm
  unfold m_X7_read
  have FR : ∀ a, ¬ (f7 pj a ∨ f3 pd a) → h a = h a := fun _ _ => rfl
  have Qj : g_P j = g_P j := rfl
  have Qd : g_P d = g_P d := rfl
  refine e_pi (pi7_2 _ Gj) (fun h1 Gj F => ?_)
  have Gd := fr3 Gd (fun a ha => F a (fun hb => Djd _ hb ha))
  have Gt := fr9 Gt (fun a ha => F a (fun hb => Djt _ hb ha))
  have FR := fun a na => (F a (fun hb => na (Or.inl hb))).trans (FR a na)
  refine e_pi (pi7_4 _ Gj) (fun h2 Gj F => ?_)
  have Gd := fr3 Gd (fun a ha => F a (fun hb => Djd _ hb ha))
  have Gt := fr9 Gt (fun a ha => F a (fun hb => Djt _ hb ha))
  have FR := fun a na => (F a (fun hb => na (Or.inl hb))).trans (FR a na)
  refine e_pi (pi7_8 _ Gj) (fun h3 Gj F => ?_)
  have Gd := fr3 Gd (fun a ha => F a (fun hb => Djd _ hb ha))
  have Gt := fr9 Gt (fun a ha => F a (fun hb => Djt _ hb ha))
  have FR := fun a na => (F a (fun hb => na (Or.inl hb))).trans (FR a na)
  refine e_bd (gp7_0 Gj ((congrFun Qj 0).trans Ed)) ?_
  obtain ⟨d4, e8, hm⟩ := q_b hm
  have Gc := Gd
  obtain ⟨h6, e9, Gd, Rd, F⟩ := l_X3_start _ _ _ _ _ e8 Gd Gt ((congrFun Qd 0).trans Et) Ddt
  have Qd := Rd.trans Qd
  refine e_bd ((ca3 Gc).trans e9) ?_
  have Gj := fr7 Gj (fun a ha => F a (fun hb => Djd _ ha hb))
  have Gt := fr9 Gt (fun a ha => F a (fun hb => Ddt _ hb ha))
  have FR := fun a na => (F a (fun hb => na (Or.inr (hb)))).trans (FR a na)
  obtain ⟨x9, e9, e7, Gj, Gd, Rj, Rd, F⟩ := l_X7_read_26 pj pd pt Djd Djt Ddt _ _ _ _ _ _ _ hm Gj Gd Gt ((congrFun Qj 0).trans Ed) ((congrFun Qd 0).trans Et)
  exact ⟨x9, e9, e7, Gj, Gd, Rj.trans Qj, Rd.trans Qd, fun a na => (F a na).trans (FR a na)⟩
