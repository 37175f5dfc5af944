def t_X0N_pullers (l : g_S) : Option Int32 :=
  let v1 := g_P l 0
  if v1 = none then
    some ((0 : Int32))
  else
    none
set_option maxRecDepth 20000 in
theorem l_X0N_pullers (h : q_H) (pl : Nat) (l : g_S) {r : Int32} (hm : t_X0N_pullers l = some r) (Gl : g0 pl l h) : m_X0_pullers h pl = some r := by
  unfold t_X0N_pullers at hm
  unfold m_X0_pullers
  refine p_bd (go0_0 Gl) ?_
  refine r_if _ _ hm (fun _ hm => ?_) (fun _ hm => ?_)
  · exact hm
  · cases hm
def t_X0N_has (l : g_S) (a1 : Int32) : Option Int32 :=
  if a1 < 0 then
    some ((0 : Int32))
  else
    (t_X0N_pullers l).bind fun r1 =>
    if r1 ≤ a1 then
      some ((0 : Int32))
    else
      some ((1 : Int32))
set_option maxRecDepth 20000 in
theorem l_X0N_has (h : q_H) (pl : Nat) (l : g_S) (a1 : Int32) {r : Int32} (hm : t_X0N_has l a1 = some r) (Gl : g0 pl l h) : m_X0_has h pl a1 = some r := by
  unfold t_X0N_has at hm
  unfold m_X0_has
  refine r_if _ _ hm (fun _ hm => ?_) (fun _ hm => ?_)
  · exact hm
  · obtain ⟨r1, e8, hm⟩ := q_b hm
    refine p_bd ((ca0 Gl).trans (l_X0N_pullers _ _ _ e8 Gl  )) ?_
    refine r_if _ _ hm (fun _ hm => ?_) (fun _ hm => ?_)
    · exact hm
    · exact hm
def t_X1N_chooseEfforts_132 (k48 : g_S → g_S → g_S → Int32 → Option g_S) (y o t : g_S) (x2 : Int32) (x3 : Int64) : Option g_S :=
  (t_ai 8 (g_A t 5) x2).bind fun v25 =>
  (u_si 8 y 3 x2 (((if (if x3 < ((if v25 < (3 : Int32) then v25 else (3 : Int32))).toInt64 then x3 else ((if v25 < (3 : Int32) then v25 else (3 : Int32))).toInt64) < (0 : Int64) then (0 : Int64) else (if x3 < ((if v25 < (3 : Int32) then v25 else (3 : Int32))).toInt64 then x3 else ((if v25 < (3 : Int32) then v25 else (3 : Int32))).toInt64))).toInt32)).bind fun y4 =>
  k48 y4 o t ((x2 + (1 : Int32)))
set_option maxRecDepth 20000 in
theorem l_X1N_chooseEfforts_132 (py po pt : Nat) (Dyo : ∀ a, f1 py a → f4 po a → False) (Dyt : ∀ a, f1 py a → f10 pt a → False) (Dot : ∀ a, f4 po a → f10 pt a → False) {y' : g_S} {k48 : g_S → g_S → g_S → Int32 → Option g_S} {gk48 : q_H → Nat → Nat → Int32 → Option q_H} (hk48 : ∀ (h : q_H) (y o t : g_S) (x2 : Int32), k48 y o t x2 = some y' → g1 py y h → g4 po o h → g10 pt t h → g_P y 0 = some po → q_E (gk48 h py pt x2) (fun x => g1 py y' (x) ∧ g_P y' = g_P y ∧ ∀ a, ¬ (f1 py a) → (x) a = h a)) : ∀ (h : q_H) (y o t : g_S) (x2 : Int32) (x3 : Int64), t_X1N_chooseEfforts_132 k48 y o t x2 x3 = some y' → g1 py y h → g4 po o h → g10 pt t h → g_P y 0 = some po → q_E (m_X1_chooseEfforts_132 gk48 h py pt x2 x3) (fun x => g1 py y' (x) ∧ g_P y' = g_P y ∧ ∀ a, ¬ (f1 py a) → (x) a = h a) := by
  intro h y o t x2 x3 hm Gy Go Gt Eo
  unfold t_X1N_chooseEfforts_132 at hm
  unfold m_X1_chooseEfforts_132
  have FR : ∀ a, ¬ (f1 py a) → h a = h a := fun _ _ => rfl
  have Qy : g_P y = g_P y := rfl
  refine e_bd (gn10_5 Gt) ?_
  refine e_eq (ai10_5 Gt _) hm (fun v25 hm => ?_)
  refine e_bd (gn1_3 Gy) ?_
  obtain ⟨y4, e8, hm⟩ := q_b hm
  obtain ⟨h27, e9, Gy, F⟩ := as1_3 Gy e8
  have Qy := (u_si_P e8).trans Qy
  refine e_bd e9 ?_
  have Go := fr4 Go (fun a ha => F a (fun hb => Dyo _ hb ha))
  have Gt := fr10 Gt (fun a ha => F a (fun hb => Dyt _ hb ha))
  have FR := fun a na => (F a (fun hb => na (hb))).trans (FR a na)
  obtain ⟨x9, e9, Gy, Ry, F⟩ := hk48 _ _ _ _ _ hm Gy Go Gt ((congrFun Qy 0).trans Eo)
  exact ⟨x9, e9, Gy, Ry.trans Qy, fun a na => (F a na).trans (FR a na)⟩
def t_X1N_chooseEfforts_102 (k48 : g_S → g_S → g_S → Int32 → Option g_S) (y o t : g_S) (x2 : Int32) (x3 : Int64) : Option g_S :=
  if (lg_cmp x3 ((-1 : Int64))) = 0 then
    (t_X1_tellWords y o t x2).bind fun y3 =>
    none
  else
    t_X1N_chooseEfforts_132 k48 y o t x2 x3
set_option maxRecDepth 20000 in
theorem l_X1N_chooseEfforts_102 (py po pt : Nat) (Dyo : ∀ a, f1 py a → f4 po a → False) (Dyt : ∀ a, f1 py a → f10 pt a → False) (Dot : ∀ a, f4 po a → f10 pt a → False) {y' : g_S} {k48 : g_S → g_S → g_S → Int32 → Option g_S} {gk48 : q_H → Nat → Nat → Int32 → Option q_H} (hk48 : ∀ (h : q_H) (y o t : g_S) (x2 : Int32), k48 y o t x2 = some y' → g1 py y h → g4 po o h → g10 pt t h → g_P y 0 = some po → q_E (gk48 h py pt x2) (fun x => g1 py y' (x) ∧ g_P y' = g_P y ∧ ∀ a, ¬ (f1 py a) → (x) a = h a)) : ∀ (h : q_H) (y o t : g_S) (x2 : Int32) (x3 : Int64), t_X1N_chooseEfforts_102 k48 y o t x2 x3 = some y' → g1 py y h → g4 po o h → g10 pt t h → g_P y 0 = some po → q_E (m_X1_chooseEfforts_102 gk48 h py pt x2 x3) (fun x => g1 py y' (x) ∧ g_P y' = g_P y ∧ ∀ a, ¬ (f1 py a) → (x) a = h a) := by
  intro h y o t x2 x3 hm Gy Go Gt Eo
  unfold t_X1N_chooseEfforts_102 at hm
  unfold m_X1_chooseEfforts_102
  have FR : ∀ a, ¬ (f1 py a) → h a = h a := fun _ _ => rfl
  have Qy : g_P y = g_P y := rfl
  refine e_if hm (fun _ hm => ?_) (fun _ hm => ?_)
  · obtain ⟨y3, e8, hm⟩ := q_b hm
    have Gc := Gy
    obtain ⟨h29, e9, Gy, Ry, F⟩ := l_X1_tellWords _ _ _ _ _ _ _ _ e8 Gy Go Gt ((congrFun Qy 0).trans Eo) Dyo Dyt Dot
    have Qy := Ry.trans Qy
    refine e_bd ((ca1 Gc).trans e9) ?_
    have Go := fr4 Go (fun a ha => F a (fun hb => Dyo _ hb ha))
    have Gt := fr10 Gt (fun a ha => F a (fun hb => Dyt _ hb ha))
    have FR := fun a na => (F a (fun hb => na (hb))).trans (FR a na)
    cases hm
  · obtain ⟨x9, e9, Gy, Ry, F⟩ := l_X1N_chooseEfforts_132 py po pt Dyo Dyt Dot hk48 _ _ _ _ _ _ hm Gy Go Gt ((congrFun Qy 0).trans Eo)
    exact ⟨x9, e9, Gy, Ry.trans Qy, fun a na => (F a na).trans (FR a na)⟩
def t_X1N_chooseEfforts_48  : Nat → g_S → g_S → g_S → Int32 → Option g_S
  | 0, _, _, _, _ => none
  | n + 1, y, o, t, x2 =>
    let v18 := g_I o 3
    if v18 ≤ x2 then
      some y
    else
      (t_ai 8 (g_A y 2) x2).bind fun v20 =>
      (t_X10_stands t x2).bind fun r21 =>
      if r21 = 0 then
        t_X1N_chooseEfforts_132 (t_X1N_chooseEfforts_48 n) y o t x2 ((0 : Int64))
      else
        if (lg_cmp v20.toInt64 ((-1 : Int64))) = 0 then
          let v23 := g_P y 1
          if v23 = none then
            t_X1N_chooseEfforts_132 (t_X1N_chooseEfforts_48 n) y o t x2 ((2 : Int64))
          else
            t_X1N_chooseEfforts_102 (t_X1N_chooseEfforts_48 n) y o t x2 v20.toInt64
        else
          t_X1N_chooseEfforts_102 (t_X1N_chooseEfforts_48 n) y o t x2 v20.toInt64
set_option maxRecDepth 20000 in
theorem l_X1N_chooseEfforts_48 (py po pt : Nat) (Dyo : ∀ a, f1 py a → f4 po a → False) (Dyt : ∀ a, f1 py a → f10 pt a → False) (Dot : ∀ a, f4 po a → f10 pt a → False) {y' : g_S} : ∀ (n : Nat) (h : q_H) (y o t : g_S) (x2 : Int32), t_X1N_chooseEfforts_48 n y o t x2 = some y' → g1 py y h → g4 po o h → g10 pt t h → g_P y 0 = some po → q_E (m_X1_chooseEfforts_48 n h py pt x2) (fun x => g1 py y' (x) ∧ g_P y' = g_P y ∧ ∀ a, ¬ (f1 py a) → (x) a = h a) := by
  intro n
  induction n with
  | zero => intro h y o t x2 hm Gy Go Gt Eo; cases hm
  | succ n ih =>
    intro h y o t x2 hm Gy Go Gt Eo
    unfold t_X1N_chooseEfforts_48 at hm
    unfold m_X1_chooseEfforts_48
    have FR : ∀ a, ¬ (f1 py a) → h a = h a := fun _ _ => rfl
    have Qy : g_P y = g_P y := rfl
    refine e_bd (gp1_0 Gy ((congrFun Qy 0).trans Eo)) ?_
    refine e_bd (gi4_3 Go) ?_
    refine e_if hm (fun _ hm => ?_) (fun _ hm => ?_)
    · obtain rfl := Option.some.inj hm
      exact ⟨_, rfl, Gy, Qy, FR⟩
    · refine e_bd (gn1_2 Gy) ?_
      refine e_eq (ai1_2 Gy _) hm (fun v20 hm => ?_)
      obtain ⟨r21, e8, hm⟩ := q_b hm
      refine e_bd ((ca10 Gt).trans (l_X10_stands _ _ _ _ e8 Gt  )) ?_
      refine e_if hm (fun _ hm => ?_) (fun _ hm => ?_)
      · obtain ⟨x9, e9, Gy, Ry, F⟩ := l_X1N_chooseEfforts_132 py po pt Dyo Dyt Dot ih _ _ _ _ _ _ hm Gy Go Gt ((congrFun Qy 0).trans Eo)
        exact ⟨x9, e9, Gy, Ry.trans Qy, fun a na => (F a na).trans (FR a na)⟩
      · refine e_if hm (fun _ hm => ?_) (fun _ hm => ?_)
        · refine e_bd (go1_1 Gy) ?_
          refine e_if hm (fun _ hm => ?_) (fun _ hm => ?_)
          · obtain ⟨x9, e9, Gy, Ry, F⟩ := l_X1N_chooseEfforts_132 py po pt Dyo Dyt Dot ih _ _ _ _ _ _ hm Gy Go Gt ((congrFun Qy 0).trans Eo)
            exact ⟨x9, e9, Gy, Ry.trans Qy, fun a na => (F a na).trans (FR a na)⟩
          · obtain ⟨x9, e9, Gy, Ry, F⟩ := l_X1N_chooseEfforts_102 py po pt Dyo Dyt Dot ih _ _ _ _ _ _ hm Gy Go Gt ((congrFun Qy 0).trans Eo)
            exact ⟨x9, e9, Gy, Ry.trans Qy, fun a na => (F a na).trans (FR a na)⟩
        · obtain ⟨x9, e9, Gy, Ry, F⟩ := l_X1N_chooseEfforts_102 py po pt Dyo Dyt Dot ih _ _ _ _ _ _ hm Gy Go Gt ((congrFun Qy 0).trans Eo)
          exact ⟨x9, e9, Gy, Ry.trans Qy, fun a na => (F a na).trans (FR a na)⟩
def t_X1N_chooseEfforts (y o t : g_S) : Option g_S :=
  let v2 := g_I t 2
  let v4 := g_I o 3
  (t_X10_setOnSide t ((0 : Int32)) v4).bind fun r5 =>
  (m_J6_bitCount_0f7a4 ((v2 &&& r5))).bind fun r7 =>
  (u_si 2 y 4 ((0 : Int32)) r7).bind fun y1 =>
  let v11 := g_I t 2
  (m_J6_bitCount_0f7a4 v11).bind fun r12 =>
  (t_ai 2 (g_A y1 4) ((0 : Int32))).bind fun v15 =>
  (u_si 2 y1 4 ((1 : Int32)) ((r12 - v15))).bind fun y2 =>
  t_X1N_chooseEfforts_48 q_fu y2 o t ((0 : Int32))
set_option maxRecDepth 20000 in
theorem l_X1N_chooseEfforts (h : q_H) (py po pt : Nat) (y o t : g_S) {y' : g_S} (hm : t_X1N_chooseEfforts y o t = some y') (Gy : g1 py y h) (Go : g4 po o h) (Gt : g10 pt t h) (Eo : g_P y 0 = some po) (Dyo : ∀ a, f1 py a → f4 po a → False) (Dyt : ∀ a, f1 py a → f10 pt a → False) (Dot : ∀ a, f4 po a → f10 pt a → False) : q_E (m_X1_chooseEfforts h py pt) (fun x => g1 py y' (x) ∧ g_P y' = g_P y ∧ ∀ a, ¬ (f1 py a) → (x) a = h a) := by
  unfold t_X1N_chooseEfforts at hm
  unfold m_X1_chooseEfforts
  have FR : ∀ a, ¬ (f1 py a) → h a = h a := fun _ _ => rfl
  have Qy : g_P y = g_P y := rfl
  refine e_bd (gn1_4 Gy) ?_
  refine e_bd (gi10_2 Gt) ?_
  refine e_bd (gp1_0 Gy ((congrFun Qy 0).trans Eo)) ?_
  refine e_bd (gi4_3 Go) ?_
  obtain ⟨r5, e8, hm⟩ := q_b hm
  refine e_bd ((ca10 Gt).trans (l_X10_setOnSide _ _ _ _ _ e8 Gt  )) ?_
  refine e_oo hm (fun r7 hm => ?_)
  obtain ⟨y1, e8, hm⟩ := q_b hm
  obtain ⟨h9, e9, Gy, F⟩ := as1_4 Gy e8
  have Qy := (u_si_P e8).trans Qy
  refine e_bd e9 ?_
  have Go := fr4 Go (fun a ha => F a (fun hb => Dyo _ hb ha))
  have Gt := fr10 Gt (fun a ha => F a (fun hb => Dyt _ hb ha))
  have FR := fun a na => (F a (fun hb => na (hb))).trans (FR a na)
  refine e_bd (gn1_4 Gy) ?_
  refine e_bd (gi10_2 Gt) ?_
  refine e_oo hm (fun r12 hm => ?_)
  refine e_bd (gn1_4 Gy) ?_
  refine e_eq (ai1_4 Gy _) hm (fun v15 hm => ?_)
  obtain ⟨y2, e8, hm⟩ := q_b hm
  obtain ⟨h16, e9, Gy, F⟩ := as1_4 Gy e8
  have Qy := (u_si_P e8).trans Qy
  refine e_bd e9 ?_
  have Go := fr4 Go (fun a ha => F a (fun hb => Dyo _ hb ha))
  have Gt := fr10 Gt (fun a ha => F a (fun hb => Dyt _ hb ha))
  have FR := fun a na => (F a (fun hb => na (hb))).trans (FR a na)
  obtain ⟨x9, e9, Gy, Ry, F⟩ := l_X1N_chooseEfforts_48 py po pt Dyo Dyt Dot _ _ _ _ _ _ hm Gy Go Gt ((congrFun Qy 0).trans Eo)
  exact ⟨x9, e9, Gy, Ry.trans Qy, fun a na => (F a na).trans (FR a na)⟩
def t_X1N_heaveOn_89 (k2 : g_S → g_S → g_S → Int32 → Int32 → Option (g_S × g_S)) (y o t : g_S) (x2 : Int32) (x3 : Int32) : Option (g_S × g_S) :=
  let v20 := g_I t 1
  let t5 := g_si t 1 (v20 + (1 : Int32))
  k2 y o t5 x2 ((x3 + (1 : Int32)))
set_option maxRecDepth 20000 in
theorem l_X1N_heaveOn_89 (py po pt : Nat) (Dyo : ∀ a, f1 py a → f4 po a → False) (Dyt : ∀ a, f1 py a → f10 pt a → False) (Dot : ∀ a, f4 po a → f10 pt a → False) {y' t' : g_S} {k2 : g_S → g_S → g_S → Int32 → Int32 → Option (g_S × g_S)} {gk2 : q_H → Nat → Nat → Int32 → Int32 → Option q_H} (hk2 : ∀ (h : q_H) (y o t : g_S) (x2 : Int32) (x3 : Int32), k2 y o t x2 x3 = some (y', t') → g1 py y h → g4 po o h → g10 pt t h → g_P y 0 = some po → q_E (gk2 h py pt x2 x3) (fun x => g1 py y' (x) ∧ g10 pt t' (x) ∧ g_P y' = g_P y ∧ ∀ a, ¬ (f1 py a ∨ f10 pt a) → (x) a = h a)) : ∀ (h : q_H) (y o t : g_S) (x2 : Int32) (x3 : Int32), t_X1N_heaveOn_89 k2 y o t x2 x3 = some (y', t') → g1 py y h → g4 po o h → g10 pt t h → g_P y 0 = some po → q_E (m_X1_heaveOn_89 gk2 h py pt x2 x3) (fun x => g1 py y' (x) ∧ g10 pt t' (x) ∧ g_P y' = g_P y ∧ ∀ a, ¬ (f1 py a ∨ f10 pt a) → (x) a = h a) := by
  intro h y o t x2 x3 hm Gy Go Gt Eo
  unfold t_X1N_heaveOn_89 at hm
  unfold m_X1_heaveOn_89
  have FR : ∀ a, ¬ (f1 py a ∨ f10 pt a) → h a = h a := fun _ _ => rfl
  have Qy : g_P y = g_P y := rfl
  refine e_bd (gi10_1 Gt) ?_
  refine e_pi (pi10_1 _ Gt) (fun h21 Gt F => ?_)
  have Gy := fr1 Gy (fun a ha => F a (fun hb => Dyt _ ha hb))
  have Go := fr4 Go (fun a ha => F a (fun hb => Dot _ ha hb))
  have FR := fun a na => (F a (fun hb => na (Or.inr (hb)))).trans (FR a na)
  obtain ⟨x9, e9, Gy, Gt, Ry, F⟩ := hk2 _ _ _ _ _ _ hm Gy Go Gt ((congrFun Qy 0).trans Eo)
  exact ⟨x9, e9, Gy, Gt, Ry.trans Qy, fun a na => (F a na).trans (FR a na)⟩
def t_X1N_heaveOn_2  : Nat → g_S → g_S → g_S → Int32 → Int32 → Option (g_S × g_S)
  | 0, _, _, _, _, _ => none
  | n + 1, y, o, t, x2, x3 =>
    if x2 ≤ x3 then
      some (y, t)
    else
      let v1 := g_P y 0
      if v1 = none then
        some (y, t)
      else
        let v3 := g_I o 0
        (t_X10_isOver t v3).bind fun r4 =>
        if r4 = 0 then
          (t_X1N_chooseEfforts y o t).bind fun y1 =>
          (t_X1_drawn y1 o t).bind fun r8 =>
          (t_X1_tire y1 o t).bind fun t2 =>
          let v12 := g_I t2 0
          let t3 := g_si t2 0 (if (-99 : Int32) < (if (v12 + (r8 / (4 : Int32))) < (99 : Int32) then (v12 + (r8 / (4 : Int32))) else (99 : Int32)) then (if (v12 + (r8 / (4 : Int32))) < (99 : Int32) then (v12 + (r8 / (4 : Int32))) else (99 : Int32)) else (-99 : Int32))
          (t_X4_everyone o).bind fun r15 =>
          (t_X1_slipped y1 o t3 ((r8 / (4 : Int32)))).bind fun r17 =>
          let t4 := g_si t3 2 (r15 &&& (r17 ^^^ (-1 : Int32)))
          t_X1N_heaveOn_89 (t_X1N_heaveOn_2 n) y1 o t4 x2 x3
        else
          t_X1N_heaveOn_89 (t_X1N_heaveOn_2 n) y o t x2 x3
set_option maxRecDepth 20000 in
theorem l_X1N_heaveOn_2 (py po pt : Nat) (Dyo : ∀ a, f1 py a → f4 po a → False) (Dyt : ∀ a, f1 py a → f10 pt a → False) (Dot : ∀ a, f4 po a → f10 pt a → False) {y' t' : g_S} : ∀ (n : Nat) (h : q_H) (y o t : g_S) (x2 : Int32) (x3 : Int32), t_X1N_heaveOn_2 n y o t x2 x3 = some (y', t') → g1 py y h → g4 po o h → g10 pt t h → g_P y 0 = some po → q_E (m_X1_heaveOn_2 n h py pt x2 x3) (fun x => g1 py y' (x) ∧ g10 pt t' (x) ∧ g_P y' = g_P y ∧ ∀ a, ¬ (f1 py a ∨ f10 pt a) → (x) a = h a) := by
  intro n
  induction n with
  | zero => intro h y o t x2 x3 hm Gy Go Gt Eo; cases hm
  | succ n ih =>
    intro h y o t x2 x3 hm Gy Go Gt Eo
    unfold t_X1N_heaveOn_2 at hm
    unfold m_X1_heaveOn_2
    have FR : ∀ a, ¬ (f1 py a ∨ f10 pt a) → h a = h a := fun _ _ => rfl
    have Qy : g_P y = g_P y := rfl
    refine e_if hm (fun _ hm => ?_) (fun _ hm => ?_)
    · have hq0 := Option.some.inj hm
      clear hm
      obtain ⟨rfl, rfl⟩ := Prod.mk.inj hq0
      exact ⟨_, rfl, Gy, Gt, Qy, FR⟩
    · refine e_bd (go1_0 Gy) ?_
      refine e_if hm (fun _ hm => ?_) (fun _ hm => ?_)
      · have hq0 := Option.some.inj hm
        clear hm
        obtain ⟨rfl, rfl⟩ := Prod.mk.inj hq0
        exact ⟨_, rfl, Gy, Gt, Qy, FR⟩
      · refine e_bd (gp1_0 Gy ((congrFun Qy 0).trans Eo)) ?_
        refine e_bd (gi4_0 Go) ?_
        obtain ⟨r4, e8, hm⟩ := q_b hm
        refine e_bd ((ca10 Gt).trans (l_X10_isOver _ _ _ _ e8 Gt  )) ?_
        refine e_if hm (fun _ hm => ?_) (fun _ hm => ?_)
        · obtain ⟨y1, e8, hm⟩ := q_b hm
          have Gc := Gy
          obtain ⟨h7, e9, Gy, Ry, F⟩ := l_X1N_chooseEfforts _ _ _ _ _ _ _ e8 Gy Go Gt ((congrFun Qy 0).trans Eo) Dyo Dyt Dot
          have Qy := Ry.trans Qy
          refine e_bd ((ca1 Gc).trans e9) ?_
          have Go := fr4 Go (fun a ha => F a (fun hb => Dyo _ hb ha))
          have Gt := fr10 Gt (fun a ha => F a (fun hb => Dyt _ hb ha))
          have FR := fun a na => (F a (fun hb => na (Or.inl hb))).trans (FR a na)
          obtain ⟨r8, e8, hm⟩ := q_b hm
          refine e_bd ((ca1 Gy).trans (l_X1_drawn _ _ _ _ _ _ _ e8 Gy Go Gt ((congrFun Qy 0).trans Eo) Dyo Dyt Dot)) ?_
          obtain ⟨t2, e8, hm⟩ := q_b hm
          have Gc := Gy
          obtain ⟨h11, e9, Gt, F⟩ := l_X1_tire _ _ _ _ _ _ _ e8 Gy Go Gt ((congrFun Qy 0).trans Eo) Dyo Dyt Dot
          refine e_bd ((ca1 Gc).trans e9) ?_
          have Gy := fr1 Gy (fun a ha => F a (fun hb => Dyt _ ha hb))
          have Go := fr4 Go (fun a ha => F a (fun hb => Dot _ ha hb))
          have FR := fun a na => (F a (fun hb => na (Or.inr (hb)))).trans (FR a na)
          refine e_bd (gi10_0 Gt) ?_
          refine e_pi (pi10_0 _ Gt) (fun h13 Gt F => ?_)
          have Gy := fr1 Gy (fun a ha => F a (fun hb => Dyt _ ha hb))
          have Go := fr4 Go (fun a ha => F a (fun hb => Dot _ ha hb))
          have FR := fun a na => (F a (fun hb => na (Or.inr (hb)))).trans (FR a na)
          refine e_bd (gp1_0 Gy ((congrFun Qy 0).trans Eo)) ?_
          obtain ⟨r15, e8, hm⟩ := q_b hm
          refine e_bd ((ca4 Go).trans (l_X4_everyone _ _ _ e8 Go  )) ?_
          obtain ⟨r17, e8, hm⟩ := q_b hm
          refine e_bd ((ca1 Gy).trans (l_X1_slipped _ _ _ _ _ _ _ _ e8 Gy Go Gt ((congrFun Qy 0).trans Eo) Dyo Dyt Dot)) ?_
          refine e_pi (pi10_2 _ Gt) (fun h19 Gt F => ?_)
          have Gy := fr1 Gy (fun a ha => F a (fun hb => Dyt _ ha hb))
          have Go := fr4 Go (fun a ha => F a (fun hb => Dot _ ha hb))
          have FR := fun a na => (F a (fun hb => na (Or.inr (hb)))).trans (FR a na)
          obtain ⟨x9, e9, Gy, Gt, Ry, F⟩ := l_X1N_heaveOn_89 py po pt Dyo Dyt Dot ih _ _ _ _ _ _ hm Gy Go Gt ((congrFun Qy 0).trans Eo)
          exact ⟨x9, e9, Gy, Gt, Ry.trans Qy, fun a na => (F a na).trans (FR a na)⟩
        · obtain ⟨x9, e9, Gy, Gt, Ry, F⟩ := l_X1N_heaveOn_89 py po pt Dyo Dyt Dot ih _ _ _ _ _ _ hm Gy Go Gt ((congrFun Qy 0).trans Eo)
          exact ⟨x9, e9, Gy, Gt, Ry.trans Qy, fun a na => (F a na).trans (FR a na)⟩
def t_X1N_heaveOn (y o t : g_S) (a2 : Int32) : Option (g_S × g_S) :=
  t_X1N_heaveOn_2 q_fu y o t a2 ((0 : Int32))
set_option maxRecDepth 20000 in
theorem l_X1N_heaveOn (h : q_H) (py po pt : Nat) (y o t : g_S) (a2 : Int32) {y' t' : g_S} (hm : t_X1N_heaveOn y o t a2 = some (y', t')) (Gy : g1 py y h) (Go : g4 po o h) (Gt : g10 pt t h) (Eo : g_P y 0 = some po) (Dyo : ∀ a, f1 py a → f4 po a → False) (Dyt : ∀ a, f1 py a → f10 pt a → False) (Dot : ∀ a, f4 po a → f10 pt a → False) : q_E (m_X1_heaveOn h py pt a2) (fun x => g1 py y' (x) ∧ g10 pt t' (x) ∧ g_P y' = g_P y ∧ ∀ a, ¬ (f1 py a ∨ f10 pt a) → (x) a = h a) := by
  unfold t_X1N_heaveOn at hm
  unfold m_X1_heaveOn
  have FR : ∀ a, ¬ (f1 py a ∨ f10 pt a) → h a = h a := fun _ _ => rfl
  have Qy : g_P y = g_P y := rfl
  obtain ⟨x9, e9, Gy, Gt, Ry, F⟩ := l_X1N_heaveOn_2 py po pt Dyo Dyt Dot _ _ _ _ _ _ _ hm Gy Go Gt ((congrFun Qy 0).trans Eo)
  exact ⟨x9, e9, Gy, Gt, Ry.trans Qy, fun a na => (F a na).trans (FR a na)⟩
def t_X11N_puller (m l t : g_S) (a1 : Int32) (a2 : Int32) : Option Int32 :=
  (t_X0N_has l a1).bind fun r2 =>
  if r2 = 0 then
    some ((-1 : Int32))
  else
    if a2 = 0 then
      (t_ai 8 (g_A t 3) a1).bind fun v7 =>
      some v7
    else
      if a2 = 1 then
        none
      else
        if a2 = 2 then
          (t_ai 8 (g_A t 5) a1).bind fun v15 =>
          some v15
        else
          if a2 = 3 then
            none
          else
            if a2 = 4 then
              (t_ai 8 (g_A t 4) a1).bind fun v23 =>
              some v23
            else
              if a2 = 5 then
                (t_X10_stands t a1).bind fun r26 =>
                if r26 = 0 then
                  some ((0 : Int32))
                else
                  some ((1 : Int32))
              else
                if a2 = 6 then
                  (t_ai 8 (g_A t 6) a1).bind fun v31 =>
                  some v31
                else
                  some ((-1 : Int32))
set_option maxRecDepth 20000 in
theorem l_X11N_puller (h : q_H) (pm pl pt : Nat) (m l t : g_S) (a1 : Int32) (a2 : Int32) {r : Int32} (hm : t_X11N_puller m l t a1 a2 = some r) (Gm : g11 pm m h) (Gl : g0 pl l h) (Gt : g10 pt t h) (El : g_P m 5 = some pl) (Et : g_P l 1 = some pt) (Dml : ∀ a, f11 pm a → f0 pl a → False) (Dmt : ∀ a, f11 pm a → f10 pt a → False) (Dlt : ∀ a, f0 pl a → f10 pt a → False) : m_X11_puller h pm a1 a2 = some r := by
  unfold t_X11N_puller at hm
  unfold m_X11_puller
  refine p_bd (gp11_5 Gm El) ?_
  obtain ⟨r2, e8, hm⟩ := q_b hm
  refine p_bd ((ca0 Gl).trans (l_X0N_has _ _ _ _ e8 Gl  )) ?_
  refine r_if _ _ hm (fun _ hm => ?_) (fun _ hm => ?_)
  · exact hm
  · refine r_if _ _ hm (fun _ hm => ?_) (fun _ hm => ?_)
    · refine p_bd (gp11_5 Gm El) ?_
      refine p_bd (gp0_1 Gl Et) ?_
      refine p_bd (gn10_3 Gt) ?_
      refine p_eq (ai10_3 Gt _) hm (fun v7 hm => ?_)
      exact hm
    · refine r_if _ _ hm (fun _ hm => ?_) (fun _ hm => ?_)
      · refine p_bd (gp11_5 Gm El) ?_
        cases hm
      · refine r_if _ _ hm (fun _ hm => ?_) (fun _ hm => ?_)
        · refine p_bd (gp11_5 Gm El) ?_
          refine p_bd (gp0_1 Gl Et) ?_
          refine p_bd (gn10_5 Gt) ?_
          refine p_eq (ai10_5 Gt _) hm (fun v15 hm => ?_)
          exact hm
        · refine r_if _ _ hm (fun _ hm => ?_) (fun _ hm => ?_)
          · refine p_bd (gp11_5 Gm El) ?_
            cases hm
          · refine r_if _ _ hm (fun _ hm => ?_) (fun _ hm => ?_)
            · refine p_bd (gp11_5 Gm El) ?_
              refine p_bd (gp0_1 Gl Et) ?_
              refine p_bd (gn10_4 Gt) ?_
              refine p_eq (ai10_4 Gt _) hm (fun v23 hm => ?_)
              exact hm
            · refine r_if _ _ hm (fun _ hm => ?_) (fun _ hm => ?_)
              · refine p_bd (gp11_5 Gm El) ?_
                refine p_bd (gp0_1 Gl Et) ?_
                obtain ⟨r26, e8, hm⟩ := q_b hm
                refine p_bd ((ca10 Gt).trans (l_X10_stands _ _ _ _ e8 Gt  )) ?_
                refine r_if _ _ hm (fun _ hm => ?_) (fun _ hm => ?_)
                · exact hm
                · exact hm
              · refine r_if _ _ hm (fun _ hm => ?_) (fun _ hm => ?_)
                · refine p_bd (gp11_5 Gm El) ?_
                  refine p_bd (gp0_1 Gl Et) ?_
                  refine p_bd (gn10_6 Gt) ?_
                  refine p_eq (ai10_6 Gt _) hm (fun v31 hm => ?_)
                  exact hm
                · exact hm
def t_X11N_fair (m l : g_S) (a1 : Int32) : Option Int32 :=
  let v2 := g_P l 0
  if v2 = none then
    some ((-1 : Int32))
  else
    if a1 < 0 then
      some ((-1 : Int32))
    else
      if a1 ≤ (1 : Int32) then
        none
      else
        some ((-1 : Int32))
set_option maxRecDepth 20000 in
theorem l_X11N_fair (h : q_H) (pm pl : Nat) (m l : g_S) (a1 : Int32) {r : Int32} (hm : t_X11N_fair m l a1 = some r) (Gm : g11 pm m h) (Gl : g0 pl l h) (El : g_P m 5 = some pl) (Dml : ∀ a, f11 pm a → f0 pl a → False) : m_X11_fair h pm a1 = some r := by
  unfold t_X11N_fair at hm
  unfold m_X11_fair
  refine p_bd (gp11_5 Gm El) ?_
  refine p_bd (go0_0 Gl) ?_
  refine r_if _ _ hm (fun _ hm => ?_) (fun _ hm => ?_)
  · exact hm
  · refine r_if _ _ hm (fun _ hm => ?_) (fun _ hm => ?_)
    · exact hm
    · refine r_if _ _ hm (fun _ hm => ?_) (fun _ hm => ?_)
      · refine p_bd (gp11_5 Gm El) ?_
        cases hm
      · exact hm
def t_X11N_fewest (m l : g_S) (a1 : Int32) : Option Int32 :=
  let v2 := g_P l 0
  if v2 = none then
    some ((-1 : Int32))
  else
    if a1 < 0 then
      some ((-1 : Int32))
    else
      if a1 ≤ (1 : Int32) then
        none
      else
        some ((-1 : Int32))
set_option maxRecDepth 20000 in
theorem l_X11N_fewest (h : q_H) (pm pl : Nat) (m l : g_S) (a1 : Int32) {r : Int32} (hm : t_X11N_fewest m l a1 = some r) (Gm : g11 pm m h) (Gl : g0 pl l h) (El : g_P m 5 = some pl) (Dml : ∀ a, f11 pm a → f0 pl a → False) : m_X11_fewest h pm a1 = some r := by
  unfold t_X11N_fewest at hm
  unfold m_X11_fewest
  refine p_bd (gp11_5 Gm El) ?_
  refine p_bd (go0_0 Gl) ?_
  refine r_if _ _ hm (fun _ hm => ?_) (fun _ hm => ?_)
  · exact hm
  · refine r_if _ _ hm (fun _ hm => ?_) (fun _ hm => ?_)
    · exact hm
    · refine r_if _ _ hm (fun _ hm => ?_) (fun _ hm => ?_)
      · refine p_bd (gp11_5 Gm El) ?_
        cases hm
      · exact hm
def t_X11N_needed (m l : g_S) : Option Int32 :=
  let v2 := g_P l 0
  if v2 = none then
    some ((-1 : Int32))
  else
    none
set_option maxRecDepth 20000 in
theorem l_X11N_needed (h : q_H) (pm pl : Nat) (m l : g_S) {r : Int32} (hm : t_X11N_needed m l = some r) (Gm : g11 pm m h) (Gl : g0 pl l h) (El : g_P m 5 = some pl) (Dml : ∀ a, f11 pm a → f0 pl a → False) : m_X11_needed h pm = some r := by
  unfold t_X11N_needed at hm
  unfold m_X11_needed
  refine p_bd (gp11_5 Gm El) ?_
  refine p_bd (go0_0 Gl) ?_
  refine r_if _ _ hm (fun _ hm => ?_) (fun _ hm => ?_)
  · exact hm
  · refine p_bd (gp11_5 Gm El) ?_
    cases hm
def t_X11N_pence (m l t : g_S) (a1 : Int32) (a2 : Int32) : Option Int32 :=
  (t_X0N_has l a2).bind fun r2 =>
  if r2 = 0 then
    some ((-1 : Int32))
  else
    if a1 < 0 then
      some ((-1 : Int32))
    else
      if a1 ≤ (9999 : Int32) then
        none
      else
        some ((-1 : Int32))
set_option maxRecDepth 20000 in
theorem l_X11N_pence (h : q_H) (pm pl pt : Nat) (m l t : g_S) (a1 : Int32) (a2 : Int32) {r : Int32} (hm : t_X11N_pence m l t a1 a2 = some r) (Gm : g11 pm m h) (Gl : g0 pl l h) (Gt : g10 pt t h) (El : g_P m 5 = some pl) (Et : g_P l 1 = some pt) (Dml : ∀ a, f11 pm a → f0 pl a → False) (Dmt : ∀ a, f11 pm a → f10 pt a → False) (Dlt : ∀ a, f0 pl a → f10 pt a → False) : m_X11_pence h pm a1 a2 = some r := by
  unfold t_X11N_pence at hm
  unfold m_X11_pence
  refine p_bd (gp11_5 Gm El) ?_
  obtain ⟨r2, e8, hm⟩ := q_b hm
  refine p_bd ((ca0 Gl).trans (l_X0N_has _ _ _ _ e8 Gl  )) ?_
  refine r_if _ _ hm (fun _ hm => ?_) (fun _ hm => ?_)
  · exact hm
  · refine r_if _ _ hm (fun _ hm => ?_) (fun _ hm => ?_)
    · exact hm
    · refine r_if _ _ hm (fun _ hm => ?_) (fun _ hm => ?_)
      · refine p_bd (gp11_5 Gm El) ?_
        refine p_bd (gp0_1 Gl Et) ?_
        refine p_bd (gp11_5 Gm El) ?_
        cases hm
      · exact hm
def t_X11N_count (m l t j d : g_S) (a1 : Int32) : Option Int32 :=
  if a1 = 0 then
    let v2 := g_P l 0
    if v2 = none then
      some ((0 : Int32))
    else
      none
  else
    if a1 = 1 then
      let v7 := g_P l 0
      if v7 = none then
        some ((0 : Int32))
      else
        none
    else
      if a1 = 2 then
        (t_X0N_pullers l).bind fun r12 =>
        some r12
      else
        if a1 = 3 then
          let v14 := g_I m 4
          some v14
        else
          if a1 = 4 then
            let v16 := g_I l 2
            some v16
          else
            if a1 = 5 then
              let v19 := g_I t 1
              some v19
            else
              if a1 = 6 then
                (t_X0N_pullers l).bind fun r23 =>
                (t_X10_setOnSide t ((0 : Int32)) r23).bind fun r25 =>
                some r25
              else
                if a1 = 7 then
                  let v29 := g_I t 2
                  some v29
                else
                  if a1 = 8 then
                    let v31 := g_P l 0
                    if v31 = none then
                      some ((0 : Int32))
                    else
                      none
                  else
                    if a1 = 9 then
                      (t_X0N_pullers l).bind fun r42 =>
                      (t_X10_workedTogether t r42).bind fun r44 =>
                      some r44
                    else
                      if a1 = 10 then
                        let v47 := g_I l 4
                        some v47
                      else
                        if a1 = 11 then
                          let v49 := g_I j 2
                          some v49
                        else
                          if a1 = 12 then
                            let v51 := g_I l 3
                            some v51
                          else
                            if a1 = 13 then
                              let v53 := g_I d 1
                              some v53
                            else
                              some ((-1 : Int32))
set_option maxRecDepth 20000 in
theorem l_X11N_count (h : q_H) (pm pl pt pj pd : Nat) (m l t j d : g_S) (a1 : Int32) {r : Int32} (hm : t_X11N_count m l t j d a1 = some r) (Gm : g11 pm m h) (Gl : g0 pl l h) (Gt : g10 pt t h) (Gj : g2 pj j h) (Gd : g9 pd d h) (El : g_P m 5 = some pl) (Et : g_P l 1 = some pt) (Ej : g_P m 6 = some pj) (Ed : g_P m 0 = some pd) (Dml : ∀ a, f11 pm a → f0 pl a → False) (Dmt : ∀ a, f11 pm a → f10 pt a → False) (Dmj : ∀ a, f11 pm a → f2 pj a → False) (Dmd : ∀ a, f11 pm a → f9 pd a → False) (Dlt : ∀ a, f0 pl a → f10 pt a → False) (Dlj : ∀ a, f0 pl a → f2 pj a → False) (Dld : ∀ a, f0 pl a → f9 pd a → False) (Dtj : ∀ a, f10 pt a → f2 pj a → False) (Dtd : ∀ a, f10 pt a → f9 pd a → False) (Djd : ∀ a, f2 pj a → f9 pd a → False) : m_X11_count h pm a1 = some r := by
  unfold t_X11N_count at hm
  unfold m_X11_count
  refine r_if _ _ hm (fun _ hm => ?_) (fun _ hm => ?_)
  · refine p_bd (gp11_5 Gm El) ?_
    refine p_bd (go0_0 Gl) ?_
    refine r_if _ _ hm (fun _ hm => ?_) (fun _ hm => ?_)
    · exact hm
    · refine p_bd (gp11_5 Gm El) ?_
      cases hm
  · refine r_if _ _ hm (fun _ hm => ?_) (fun _ hm => ?_)
    · refine p_bd (gp11_5 Gm El) ?_
      refine p_bd (go0_0 Gl) ?_
      refine r_if _ _ hm (fun _ hm => ?_) (fun _ hm => ?_)
      · exact hm
      · refine p_bd (gp11_5 Gm El) ?_
        cases hm
    · refine r_if _ _ hm (fun _ hm => ?_) (fun _ hm => ?_)
      · refine p_bd (gp11_5 Gm El) ?_
        obtain ⟨r12, e8, hm⟩ := q_b hm
        refine p_bd ((ca0 Gl).trans (l_X0N_pullers _ _ _ e8 Gl  )) ?_
        exact hm
      · refine r_if _ _ hm (fun _ hm => ?_) (fun _ hm => ?_)
        · refine p_bd (gi11_4 Gm) ?_
          exact hm
        · refine r_if _ _ hm (fun _ hm => ?_) (fun _ hm => ?_)
          · refine p_bd (gp11_5 Gm El) ?_
            refine p_bd (gi0_2 Gl) ?_
            exact hm
          · refine r_if _ _ hm (fun _ hm => ?_) (fun _ hm => ?_)
            · refine p_bd (gp11_5 Gm El) ?_
              refine p_bd (gp0_1 Gl Et) ?_
              refine p_bd (gi10_1 Gt) ?_
              exact hm
            · refine r_if _ _ hm (fun _ hm => ?_) (fun _ hm => ?_)
              · refine p_bd (gp11_5 Gm El) ?_
                refine p_bd (gp0_1 Gl Et) ?_
                refine p_bd (gp11_5 Gm El) ?_
                obtain ⟨r23, e8, hm⟩ := q_b hm
                refine p_bd ((ca0 Gl).trans (l_X0N_pullers _ _ _ e8 Gl  )) ?_
                obtain ⟨r25, e8, hm⟩ := q_b hm
                refine p_bd ((ca10 Gt).trans (l_X10_setOnSide _ _ _ _ _ e8 Gt  )) ?_
                exact hm
              · refine r_if _ _ hm (fun _ hm => ?_) (fun _ hm => ?_)
                · refine p_bd (gp11_5 Gm El) ?_
                  refine p_bd (gp0_1 Gl Et) ?_
                  refine p_bd (gi10_2 Gt) ?_
                  exact hm
                · refine r_if _ _ hm (fun _ hm => ?_) (fun _ hm => ?_)
                  · refine p_bd (gp11_5 Gm El) ?_
                    refine p_bd (go0_0 Gl) ?_
                    refine r_if _ _ hm (fun _ hm => ?_) (fun _ hm => ?_)
                    · exact hm
                    · refine p_bd (gp11_5 Gm El) ?_
                      refine p_bd (gp0_1 Gl Et) ?_
                      refine p_bd (gp11_5 Gm El) ?_
                      cases hm
                  · refine r_if _ _ hm (fun _ hm => ?_) (fun _ hm => ?_)
                    · refine p_bd (gp11_5 Gm El) ?_
                      refine p_bd (gp0_1 Gl Et) ?_
                      refine p_bd (gp11_5 Gm El) ?_
                      obtain ⟨r42, e8, hm⟩ := q_b hm
                      refine p_bd ((ca0 Gl).trans (l_X0N_pullers _ _ _ e8 Gl  )) ?_
                      obtain ⟨r44, e8, hm⟩ := q_b hm
                      refine p_bd ((ca10 Gt).trans (l_X10_workedTogether _ _ _ _ e8 Gt  )) ?_
                      exact hm
                    · refine r_if _ _ hm (fun _ hm => ?_) (fun _ hm => ?_)
                      · refine p_bd (gp11_5 Gm El) ?_
                        refine p_bd (gi0_4 Gl) ?_
                        exact hm
                      · refine r_if _ _ hm (fun _ hm => ?_) (fun _ hm => ?_)
                        · refine p_bd (gp11_6 Gm Ej) ?_
                          refine p_bd (gi2_2 Gj) ?_
                          exact hm
                        · refine r_if _ _ hm (fun _ hm => ?_) (fun _ hm => ?_)
                          · refine p_bd (gp11_5 Gm El) ?_
                            refine p_bd (gi0_3 Gl) ?_
                            exact hm
                          · refine r_if _ _ hm (fun _ hm => ?_) (fun _ hm => ?_)
                            · refine p_bd (gp11_0 Gm Ed) ?_
                              refine p_bd (gi9_1 Gd) ?_
                              exact hm
                            · exact hm
def t_X11N_swings (m l : g_S) (a1 : Int32) : Option Int32 :=
  (t_X0N_has l a1).bind fun r2 =>
  if r2 = 0 then
    some ((-1 : Int32))
  else
    none
set_option maxRecDepth 20000 in
theorem l_X11N_swings (h : q_H) (pm pl : Nat) (m l : g_S) (a1 : Int32) {r : Int32} (hm : t_X11N_swings m l a1 = some r) (Gm : g11 pm m h) (Gl : g0 pl l h) (El : g_P m 5 = some pl) (Dml : ∀ a, f11 pm a → f0 pl a → False) : m_X11_swings h pm a1 = some r := by
  unfold t_X11N_swings at hm
  unfold m_X11_swings
  refine p_bd (gp11_5 Gm El) ?_
  obtain ⟨r2, e8, hm⟩ := q_b hm
  refine p_bd ((ca0 Gl).trans (l_X0N_has _ _ _ _ e8 Gl  )) ?_
  refine r_if _ _ hm (fun _ hm => ?_) (fun _ hm => ?_)
  · exact hm
  · refine p_bd (gp11_5 Gm El) ?_
    cases hm
def t_X11N_shares (m l : g_S) (a1 : Int32) : Option Int32 :=
  (t_X0N_has l a1).bind fun r2 =>
  if r2 = 0 then
    some ((-1 : Int32))
  else
    none
set_option maxRecDepth 20000 in
theorem l_X11N_shares (h : q_H) (pm pl : Nat) (m l : g_S) (a1 : Int32) {r : Int32} (hm : t_X11N_shares m l a1 = some r) (Gm : g11 pm m h) (Gl : g0 pl l h) (El : g_P m 5 = some pl) (Dml : ∀ a, f11 pm a → f0 pl a → False) : m_X11_shares h pm a1 = some r := by
  unfold t_X11N_shares at hm
  unfold m_X11_shares
  refine p_bd (gp11_5 Gm El) ?_
  obtain ⟨r2, e8, hm⟩ := q_b hm
  refine p_bd ((ca0 Gl).trans (l_X0N_has _ _ _ _ e8 Gl  )) ?_
  refine r_if _ _ hm (fun _ hm => ?_) (fun _ hm => ?_)
  · exact hm
  · refine p_bd (gp11_5 Gm El) ?_
    cases hm
