def t_X1N_chooseEfforts_132 (k48 : g_S → g_S → g_S → Int32 → Option g_S) (y o t : g_S) (x2 : Int32) (x3 : Int64) : Option g_S :=
  (t_ai 8 (g_A t 5) x2).bind fun v25 =>
  (u_si 8 y 3 x2 (((if (if x3 < ((if v25 < (3 : Int32) then v25 else (3 : Int32))).toInt64 then x3 else ((if v25 < (3 : Int32) then v25 else (3 : Int32))).toInt64) < (0 : Int64) then (0 : Int64) else (if x3 < ((if v25 < (3 : Int32) then v25 else (3 : Int32))).toInt64 then x3 else ((if v25 < (3 : Int32) then v25 else (3 : Int32))).toInt64))).toInt32)).bind fun y4 =>
  k48 y4 o t ((x2 + (1 : Int32)))
set_option maxRecDepth 20000 in
theorem l_X1N_chooseEfforts_132 (py po pt : Nat) (Dyo : ∀ a, f1 py a → f4 po a → False) (Dyt : ∀ a, f1 py a → f10 pt a → False) (Dot : ∀ a, f4 po a → f10 pt a → False) {y' : g_S} {k48 : g_S → g_S → g_S → Int32 → Option g_S} {gk48 : q_H → Nat → Nat → Int32 → Option q_H} (hk48 : ∀ (h : q_H) (y o t : g_S) (x2 : Int32), k48 y o t x2 = some y' → g1 py y h → g4 po o h → g10 pt t h → g_P y 0 = some po → q_E (gk48 h py pt x2) (fun x => g1 py y' (x) ∧ g_P y' = g_P y ∧ ∀ a, ¬ (f1 py a) → (x) a = h a)) : ∀ (h : q_H) (y o t : g_S) (x2 : Int32) (x3 : Int64), t_X1N_chooseEfforts_132 k48 y o t x2 x3 = some y' → g1 py y h → g4 po o h → g10 pt t h → g_P y 0 = some po → q_E (m_X1_chooseEfforts_132 gk48 h py pt x2 x3) (fun x => g1 py y' (x) ∧ g_P y' = g_P y ∧ ∀ a, ¬ (f1 py a) → (x) a = h a) := by
  intro h y o t x2 x3 hm Gy Go Gt Eo
  unfold t_X1N_chooseEfforts_132 at hm
  unfold m_X1_chooseEfforts_132
  have FR : ∀ a, ¬ (f1 py a) → h a = h a := fun _ _ => rfl
  have Qy : g_P y = g_P y := rfl
  refine e_bd (gn10_5 Gt) ?_
  refine e_eq (ai10_5 Gt _) hm (fun v25 hm => ?_)
  refine e_bd (gn1_3 Gy) ?_
  obtain ⟨y4, e8, hm⟩ := q_b hm
  obtain ⟨h27, e9, Gy, F⟩ := as1_3 Gy e8
  have Qy := (u_si_P e8).trans Qy
  refine e_bd e9 ?_
  have Go := fr4 Go (fun a ha => F a (fun hb => Dyo _ hb ha))
  have Gt := fr10 Gt (fun a ha => F a (fun hb => Dyt _ hb ha))
  have FR := fun a na => (F a (fun hb => na (hb))).trans (FR a na)
  obtain ⟨x9, e9, Gy, Ry, F⟩ := hk48 _ _ _ _ _ hm Gy Go Gt ((congrFun Qy 0).trans Eo)
  exact ⟨x9, e9, Gy, Ry.trans Qy, fun a na => (F a na).trans (FR a na)⟩
def t_X1N_chooseEfforts_102 (k48 : g_S → g_S → g_S → Int32 → Option g_S) (y o t : g_S) (x2 : Int32) (x3 : Int64) : Option g_S :=
  if (lg_cmp x3 ((-1 : Int64))) = 0 then
    (t_X1_tellWords y o t x2).bind fun y3 =>
    none
  else
    t_X1N_chooseEfforts_132 k48 y o t x2 x3
set_option maxRecDepth 20000 in
theorem l_X1N_chooseEfforts_102 (py po pt : Nat) (Dyo : ∀ a, f1 py a → f4 po a → False) (Dyt : ∀ a, f1 py a → f10 pt a → False) (Dot : ∀ a, f4 po a → f10 pt a → False) {y' : g_S} {k48 : g_S → g_S → g_S → Int32 → Option g_S} {gk48 : q_H → Nat → Nat → Int32 → Option q_H} (hk48 : ∀ (h : q_H) (y o t : g_S) (x2 : Int32), k48 y o t x2 = some y' → g1 py y h → g4 po o h → g10 pt t h → g_P y 0 = some po → q_E (gk48 h py pt x2) (fun x => g1 py y' (x) ∧ g_P y' = g_P y ∧ ∀ a, ¬ (f1 py a) → (x) a = h a)) : ∀ (h : q_H) (y o t : g_S) (x2 : Int32) (x3 : Int64), t_X1N_chooseEfforts_102 k48 y o t x2 x3 = some y' → g1 py y h → g4 po o h → g10 pt t h → g_P y 0 = some po → q_E (m_X1_chooseEfforts_102 gk48 h py pt x2 x3) (fun x => g1 py y' (x) ∧ g_P y' = g_P y ∧ ∀ a, ¬ (f1 py a) → (x) a = h a) := by
  intro h y o t x2 x3 hm Gy Go Gt Eo
  unfold t_X1N_chooseEfforts_102 at hm
  unfold m_X1_chooseEfforts_102
  have FR : ∀ a, ¬ (f1 py a) → h a = h a := fun _ _ => rfl
  have Qy : g_P y = g_P y := rfl
  refine e_if hm (fun _ hm => ?_) (fun _ hm => ?_)
  · obtain ⟨y3, e8, hm⟩ := q_b hm
    have Gc := Gy
    obtain ⟨h29, e9, Gy, Ry, F⟩ := l_X1_tellWords _ _ _ _ _ _ _ _ e8 Gy Go Gt ((congrFun Qy 0).trans Eo) Dyo Dyt Dot
    have Qy := Ry.trans Qy
    refine e_bd ((ca1 Gc).trans e9) ?_
    have Go := fr4 Go (fun a ha => F a (fun hb => Dyo _ hb ha))
    have Gt := fr10 Gt (fun a ha => F a (fun hb => Dyt _ hb ha))
    have FR := fun a na => (F a (fun hb => na (hb))).trans (FR a na)
    cases hm
  · obtain ⟨x9, e9, Gy, Ry, F⟩ := l_X1N_chooseEfforts_132 py po pt Dyo Dyt Dot hk48 _ _ _ _ _ _ hm Gy Go Gt ((congrFun Qy 0).trans Eo)
    exact ⟨x9, e9, Gy, Ry.trans Qy, fun a na => (F a na).trans (FR a na)⟩
def t_X1N_chooseEfforts_48  : Nat → g_S → g_S → g_S → Int32 → Option g_S
  | 0, _, _, _, _ => none
  | n + 1, y, o, t, x2 =>
    let v18 := g_I o 3
    if v18 ≤ x2 then
      some y
    else
      (t_ai 8 (g_A y 2) x2).bind fun v20 =>
      (t_X10_stands t x2).bind fun r21 =>
      if r21 = 0 then
        t_X1N_chooseEfforts_132 (t_X1N_chooseEfforts_48 n) y o t x2 ((0 : Int64))
      else
        if (lg_cmp v20.toInt64 ((-1 : Int64))) = 0 then
          let v23 := g_P y 1
          if v23 = none then
            t_X1N_chooseEfforts_132 (t_X1N_chooseEfforts_48 n) y o t x2 ((2 : Int64))
          else
            t_X1N_chooseEfforts_102 (t_X1N_chooseEfforts_48 n) y o t x2 v20.toInt64
        else
          t_X1N_chooseEfforts_102 (t_X1N_chooseEfforts_48 n) y o t x2 v20.toInt64
set_option maxRecDepth 20000 in
theorem l_X1N_chooseEfforts_48 (py po pt : Nat) (Dyo : ∀ a, f1 py a → f4 po a → False) (Dyt : ∀ a, f1 py a → f10 pt a → False) (Dot : ∀ a, f4 po a → f10 pt a → False) {y' : g_S} : ∀ (n : Nat) (h : q_H) (y o t : g_S) (x2 : Int32), t_X1N_chooseEfforts_48 n y o t x2 = some y' → g1 py y h → g4 po o h → g10 pt t h → g_P y 0 = some po → q_E (m_X1_chooseEfforts_48 n h py pt x2) (fun x => g1 py y' (x) ∧ g_P y' = g_P y ∧ ∀ a, ¬ (f1 py a) → (x) a = h a) := by
  intro n
  induction n with
  | zero => intro h y o t x2 hm Gy Go Gt Eo; cases hm
  | succ n ih =>
    intro h y o t x2 hm Gy Go Gt Eo
    unfold t_X1N_chooseEfforts_48 at hm
    unfold m_X1_chooseEfforts_48
    have FR : ∀ a, ¬ (f1 py a) → h a = h a := fun _ _ => rfl
    have Qy : g_P y = g_P y := rfl
    refine e_bd (gp1_0 Gy ((congrFun Qy 0).trans Eo)) ?_
    refine e_bd (gi4_3 Go) ?_
    refine e_if hm (fun _ hm => ?_) (fun _ hm => ?_)
    · obtain rfl := Option.some.inj hm
      exact ⟨_, rfl, Gy, Qy, FR⟩
    · refine e_bd (gn1_2 Gy) ?_
      refine e_eq (ai1_2 Gy _) hm (fun v20 hm => ?_)
      obtain ⟨r21, e8, hm⟩ := q_b hm
      refine e_bd ((ca10 Gt).trans (l_X10_stands _ _ _ _ e8 Gt  )) ?_
      refine e_if hm (fun _ hm => ?_) (fun _ hm => ?_)
      · obtain ⟨x9, e9, Gy, Ry, F⟩ := l_X1N_chooseEfforts_132 py po pt Dyo Dyt Dot ih _ _ _ _ _ _ hm Gy Go Gt ((congrFun Qy 0).trans Eo)
        exact ⟨x9, e9, Gy, Ry.trans Qy, fun a na => (F a na).trans (FR a na)⟩
      · refine e_if hm (fun _ hm => ?_) (fun _ hm => ?_)
        · refine e_bd (go1_1 Gy) ?_
          refine e_if hm (fun _ hm => ?_) (fun _ hm => ?_)
          · obtain ⟨x9, e9, Gy, Ry, F⟩ := l_X1N_chooseEfforts_132 py po pt Dyo Dyt Dot ih _ _ _ _ _ _ hm Gy Go Gt ((congrFun Qy 0).trans Eo)
            exact ⟨x9, e9, Gy, Ry.trans Qy, fun a na => (F a na).trans (FR a na)⟩
          · obtain ⟨x9, e9, Gy, Ry, F⟩ := l_X1N_chooseEfforts_102 py po pt Dyo Dyt Dot ih _ _ _ _ _ _ hm Gy Go Gt ((congrFun Qy 0).trans Eo)
            exact ⟨x9, e9, Gy, Ry.trans Qy, fun a na => (F a na).trans (FR a na)⟩
        · obtain ⟨x9, e9, Gy, Ry, F⟩ := l_X1N_chooseEfforts_102 py po pt Dyo Dyt Dot ih _ _ _ _ _ _ hm Gy Go Gt ((congrFun Qy 0).trans Eo)
          exact ⟨x9, e9, Gy, Ry.trans Qy, fun a na => (F a na).trans (FR a na)⟩
def t_X1N_chooseEfforts (y o t : g_S) : Option g_S :=
  let v2 := g_I t 2
  let v4 := g_I o 3
  (t_X10_setOnSide t ((0 : Int32)) v4).bind fun r5 =>
  (m_J6_bitCount_0f7a4 ((v2 &&& r5))).bind fun r7 =>
  (u_si 2 y 4 ((0 : Int32)) r7).bind fun y1 =>
  let v11 := g_I t 2
  (m_J6_bitCount_0f7a4 v11).bind fun r12 =>
  (t_ai 2 (g_A y1 4) ((0 : Int32))).bind fun v15 =>
  (u_si 2 y1 4 ((1 : Int32)) ((r12 - v15))).bind fun y2 =>
  t_X1N_chooseEfforts_48 q_fu y2 o t ((0 : Int32))
set_option maxRecDepth 20000 in
theorem l_X1N_chooseEfforts (h : q_H) (py po pt : Nat) (y o t : g_S) {y' : g_S} (hm : t_X1N_chooseEfforts y o t = some y') (Gy : g1 py y h) (Go : g4 po o h) (Gt : g10 pt t h) (Eo : g_P y 0 = some po) (Dyo : ∀ a, f1 py a → f4 po a → False) (Dyt : ∀ a, f1 py a → f10 pt a → False) (Dot : ∀ a, f4 po a → f10 pt a → False) : q_E (m_X1_chooseEfforts h py pt) (fun x => g1 py y' (x) ∧ g_P y' = g_P y ∧ ∀ a, ¬ (f1 py a) → (x) a = h a) := by
  unfold t_X1N_chooseEfforts at hm
  unfold m_X1_chooseEfforts
  have FR : ∀ a, ¬ (f1 py a) → h a = h a := fun _ _ => rfl
  have Qy : g_P y = g_P y := rfl
  refine e_bd (gn1_4 Gy) ?_
  refine e_bd (gi10_2 Gt) ?_
  refine e_bd (gp1_0 Gy ((congrFun Qy 0).trans Eo)) ?_
  refine e_bd (gi4_3 Go) ?_
  obtain ⟨r5, e8, hm⟩ := q_b hm
  refine e_bd ((ca10 Gt).trans (l_X10_setOnSide _ _ _ _ _ e8 Gt  )) ?_
  refine e_oo hm (fun r7 hm => ?_)
  obtain ⟨y1, e8, hm⟩ := q_b hm
  obtain ⟨h9, e9, Gy, F⟩ := as1_4 Gy e8
  have Qy := (u_si_P e8).trans Qy
  refine e_bd e9 ?_
  have Go := fr4 Go (fun a ha => F a (fun hb => Dyo _ hb ha))
  have Gt := fr10 Gt (fun a ha => F a (fun hb => Dyt _ hb ha))
  have FR := fun a na => (F a (fun hb => na (hb))).trans (FR a na)
  refine e_bd (gn1_4 Gy) ?_
  refine e_bd (gi10_2 Gt) ?_
  refine e_oo hm (fun r12 hm => ?_)
  refine e_bd (gn1_4 Gy) ?_
  refine e_eq (ai1_4 Gy _) hm (fun v15 hm => ?_)
  obtain ⟨y2, e8, hm⟩ := q_b hm
  obtain ⟨h16, e9, Gy, F⟩ := as1_4 Gy e8
  have Qy := (u_si_P e8).trans Qy
  refine e_bd e9 ?_
  have Go := fr4 Go (fun a ha => F a (fun hb => Dyo _ hb ha))
  have Gt := fr10 Gt (fun a ha => F a (fun hb => Dyt _ hb ha))
  have FR := fun a na => (F a (fun hb => na (hb))).trans (FR a na)
  obtain ⟨x9, e9, Gy, Ry, F⟩ := l_X1N_chooseEfforts_48 py po pt Dyo Dyt Dot _ _ _ _ _ _ hm Gy Go Gt ((congrFun Qy 0).trans Eo)
  exact ⟨x9, e9, Gy, Ry.trans Qy, fun a na => (F a na).trans (FR a na)⟩
def t_X1N_heaveOn_89 (k2 : g_S → g_S → g_S → Int32 → Int32 → Option (g_S × g_S)) (y o t : g_S) (x2 : Int32) (x3 : Int32) : Option (g_S × g_S) :=
  let v20 := g_I t 1
  let t5 := g_si t 1 (v20 + (1 : Int32))
  k2 y o t5 x2 ((x3 + (1 : Int32)))
set_option maxRecDepth 20000 in
theorem l_X1N_heaveOn_89 (py po pt : Nat) (Dyo : ∀ a, f1 py a → f4 po a → False) (Dyt : ∀ a, f1 py a → f10 pt a → False) (Dot : ∀ a, f4 po a → f10 pt a → False) {y' t' : g_S} {k2 : g_S → g_S → g_S → Int32 → Int32 → Option (g_S × g_S)} {gk2 : q_H → Nat → Nat → Int32 → Int32 → Option q_H} (hk2 : ∀ (h : q_H) (y o t : g_S) (x2 : Int32) (x3 : Int32), k2 y o t x2 x3 = some (y', t') → g1 py y h → g4 po o h → g10 pt t h → g_P y 0 = some po → q_E (gk2 h py pt x2 x3) (fun x => g1 py y' (x) ∧ g10 pt t' (x) ∧ g_P y' = g_P y ∧ ∀ a, ¬ (f1 py a ∨ f10 pt a) → (x) a = h a)) : ∀ (h : q_H) (y o t : g_S) (x2 : Int32) (x3 : Int32), t_X1N_heaveOn_89 k2 y o t x2 x3 = some (y', t') → g1 py y h → g4 po o h → g10 pt t h → g_P y 0 = some po → q_E (m_X1_heaveOn_89 gk2 h py pt x2 x3) (fun x => g1 py y' (x) ∧ g10 pt t' (x) ∧ g_P y' = g_P y ∧ ∀ a, ¬ (f1 py a ∨ f10 pt a) → (x) a = h a) := by
  intro h y o t x2 x3 hm Gy Go Gt Eo
  unfold t_X1N_heaveOn_89 at hm
  unfold m_X1_heaveOn_89
  have FR : ∀ a, ¬ (f1 py a ∨ f10 pt a) → h a = h a := fun _ _ => rfl
  have Qy : g_P y = g_P y := rfl
  refine e_bd (gi10_1 Gt) ?_
  refine e_pi (pi10_1 _ Gt) (fun h21 Gt F => ?_)
  have Gy := fr1 Gy (fun a ha => F a (fun hb => Dyt _ ha hb))
  have Go := fr4 Go (fun a ha => F a (fun hb => Dot _ ha hb))
  have FR := fun a na => (F a (fun hb => na (Or.inr (hb)))).trans (FR a na)
  obtain ⟨x9, e9, Gy, Gt, Ry, F⟩ := hk2 _ _ _ _ _ _ hm Gy Go Gt ((congrFun Qy 0).trans Eo)
  exact ⟨x9, e9, Gy, Gt, Ry.trans Qy, fun a na => (F a na).trans (FR a na)⟩
def t_X1N_heaveOn_2  : Nat → g_S → g_S → g_S → Int32 → Int32 → Option (g_S × g_S)
  | 0, _, _, _, _, _ => none
  | n + 1, y, o, t, x2, x3 =>
    if x2 ≤ x3 then
      some (y, t)
    else
      let v1 := g_P y 0
      if v1 = none then
        some (y, t)
      else
        let v3 := g_I o 0
        (t_X10_isOver t v3).bind fun r4 =>
        if r4 = 0 then
          (t_X1N_chooseEfforts y o t).bind fun y1 =>
          (t_X1_drawn y1 o t).bind fun r8 =>
          (t_X1_tire y1 o t).bind fun t2 =>
          let v12 := g_I t2 0
          let t3 := g_si t2 0 (if (-99 : Int32) < (if (v12 + (r8 / (4 : Int32))) < (99 : Int32) then (v12 + (r8 / (4 : Int32))) else (99 : Int32)) then (if (v12 + (r8 / (4 : Int32))) < (99 : Int32) then (v12 + (r8 / (4 : Int32))) else (99 : Int32)) else (-99 : Int32))
          (t_X4_everyone o).bind fun r15 =>
          (t_X1_slipped y1 o t3 ((r8 / (4 : Int32)))).bind fun r17 =>
          let t4 := g_si t3 2 (r15 &&& (r17 ^^^ (-1 : Int32)))
          t_X1N_heaveOn_89 (t_X1N_heaveOn_2 n) y1 o t4 x2 x3
        else
          t_X1N_heaveOn_89 (t_X1N_heaveOn_2 n) y o t x2 x3
set_option maxRecDepth 20000 in
theorem l_X1N_heaveOn_2 (py po pt : Nat) (Dyo : ∀ a, f1 py a → f4 po a → False) (Dyt : ∀ a, f1 py a → f10 pt a → False) (Dot : ∀ a, f4 po a → f10 pt a → False) {y' t' : g_S} : ∀ (n : Nat) (h : q_H) (y o t : g_S) (x2 : Int32) (x3 : Int32), t_X1N_heaveOn_2 n y o t x2 x3 = some (y', t') → g1 py y h → g4 po o h → g10 pt t h → g_P y 0 = some po → q_E (m_X1_heaveOn_2 n h py pt x2 x3) (fun x => g1 py y' (x) ∧ g10 pt t' (x) ∧ g_P y' = g_P y ∧ ∀ a, ¬ (f1 py a ∨ f10 pt a) → (x) a = h a) := by
  intro n
  induction n with
  | zero => intro h y o t x2 x3 hm Gy Go Gt Eo; cases hm
  | succ n ih =>
    intro h y o t x2 x3 hm Gy Go Gt Eo
    unfold t_X1N_heaveOn_2 at hm
    unfold m_X1_heaveOn_2
    have FR : ∀ a, ¬ (f1 py a ∨ f10 pt a) → h a = h a := fun _ _ => rfl
    have Qy : g_P y = g_P y := rfl
    refine e_if hm (fun _ hm => ?_) (fun _ hm => ?_)
    · have hq0 := Option.some.inj hm
      clear hm
      obtain ⟨rfl, rfl⟩ := Prod.mk.inj hq0
      exact ⟨_, rfl, Gy, Gt, Qy, FR⟩
    · refine e_bd (go1_0 Gy) ?_
      refine e_if hm (fun _ hm => ?_) (fun _ hm => ?_)
      · have hq0 := Option.some.inj hm
        clear hm
        obtain ⟨rfl, rfl⟩ := Prod.mk.inj hq0
        exact ⟨_, rfl, Gy, Gt, Qy, FR⟩
      · refine e_bd (gp1_0 Gy ((congrFun Qy 0).trans Eo)) ?_
        refine e_bd (gi4_0 Go) ?_
        obtain ⟨r4, e8, hm⟩ := q_b hm
        refine e_bd ((ca10 Gt).trans (l_X10_isOver _ _ _ _ e8 Gt  )) ?_
        refine e_if hm (fun _ hm => ?_) (fun _ hm => ?_)
        · obtain ⟨y1, e8, hm⟩ := q_b hm
          have Gc := Gy
          obtain ⟨h7, e9, Gy, Ry, F⟩ := l_X1N_chooseEfforts _ _ _ _ _ _ _ e8 Gy Go Gt ((congrFun Qy 0).trans Eo) Dyo Dyt Dot
          have Qy := Ry.trans Qy
          refine e_bd ((ca1 Gc).trans e9) ?_
          have Go := fr4 Go (fun a ha => F a (fun hb => Dyo _ hb ha))
          have Gt := fr10 Gt (fun a ha => F a (fun hb => Dyt _ hb ha))
          have FR := fun a na => (F a (fun hb => na (Or.inl hb))).trans (FR a na)
          obtain ⟨r8, e8, hm⟩ := q_b hm
          refine e_bd ((ca1 Gy).trans (l_X1_drawn _ _ _ _ _ _ _ e8 Gy Go Gt ((congrFun Qy 0).trans Eo) Dyo Dyt Dot)) ?_
          obtain ⟨t2, e8, hm⟩ := q_b hm
          have Gc := Gy
          obtain ⟨h11, e9, Gt, F⟩ := l_X1_tire _ _ _ _ _ _ _ e8 Gy Go Gt ((congrFun Qy 0).trans Eo) Dyo Dyt Dot
          refine e_bd ((ca1 Gc).trans e9) ?_
          have Gy := fr1 Gy (fun a ha => F a (fun hb => Dyt _ ha hb))
          have Go := fr4 Go (fun a ha => F a (fun hb => Dot _ ha hb))
          have FR := fun a na => (F a (fun hb => na (Or.inr (hb)))).trans (FR a na)
          refine e_bd (gi10_0 Gt) ?_
          refine e_pi (pi10_0 _ Gt) (fun h13 Gt F => ?_)
          have Gy := fr1 Gy (fun a ha => F a (fun hb => Dyt _ ha hb))
          have Go := fr4 Go (fun a ha => F a (fun hb => Dot _ ha hb))
          have FR := fun a na => (F a (fun hb => na (Or.inr (hb)))).trans (FR a na)
          refine e_bd (gp1_0 Gy ((congrFun Qy 0).trans Eo)) ?_
          obtain ⟨r15, e8, hm⟩ := q_b hm
          refine e_bd ((ca4 Go).trans (l_X4_everyone _ _ _ e8 Go  )) ?_
          obtain ⟨r17, e8, hm⟩ := q_b hm
          refine e_bd ((ca1 Gy).trans (l_X1_slipped _ _ _ _ _ _ _ _ e8 Gy Go Gt ((congrFun Qy 0).trans Eo) Dyo Dyt Dot)) ?_
          refine e_pi (pi10_2 _ Gt) (fun h19 Gt F => ?_)
          have Gy := fr1 Gy (fun a ha => F a (fun hb => Dyt _ ha hb))
          have Go := fr4 Go (fun a ha => F a (fun hb => Dot _ ha hb))
          have FR := fun a na => (F a (fun hb => na (Or.inr (hb)))).trans (FR a na)
          obtain ⟨x9, e9, Gy, Gt, Ry, F⟩ := l_X1N_heaveOn_89 py po pt Dyo Dyt Dot ih _ _ _ _ _ _ hm Gy Go Gt ((congrFun Qy 0).trans Eo)
          exact ⟨x9, e9, Gy, Gt, Ry.trans Qy, fun a na => (F a na).trans (FR a na)⟩
        · obtain ⟨x9, e9, Gy, Gt, Ry, F⟩ := l_X1N_heaveOn_89 py po pt Dyo Dyt Dot ih _ _ _ _ _ _ hm Gy Go Gt ((congrFun Qy 0).trans Eo)
          exact ⟨x9, e9, Gy, Gt, Ry.trans Qy, fun a na => (F a na).trans (FR a na)⟩
def t_X1N_heaveOn (y o t : g_S) (a2 : Int32) : Option (g_S × g_S) :=
  t_X1N_heaveOn_2 q_fu y o t a2 ((0 : Int32))
set_option maxRecDepth 20000 in
theorem l_X1N_heaveOn (h : q_H) (py po pt : Nat) (y o t : g_S) (a2 : Int32) {y' t' : g_S} (hm : t_X1N_heaveOn y o t a2 = some (y', t')) (Gy : g1 py y h) (Go : g4 po o h) (Gt : g10 pt t h) (Eo : g_P y 0 = some po) (Dyo : ∀ a, f1 py a → f4 po a → False) (Dyt : ∀ a, f1 py a → f10 pt a → False) (Dot : ∀ a, f4 po a → f10 pt a → False) : q_E (m_X1_heaveOn h py pt a2) (fun x => g1 py y' (x) ∧ g10 pt t' (x) ∧ g_P y' = g_P y ∧ ∀ a, ¬ (f1 py a ∨ f10 pt a) → (x) a = h a) := by
  unfold t_X1N_heaveOn at hm
  unfold m_X1_heaveOn
  have FR : ∀ a, ¬ (f1 py a ∨ f10 pt a) → h a = h a := fun _ _ => rfl
  have Qy : g_P y = g_P y := rfl
  obtain ⟨x9, e9, Gy, Gt, Ry, F⟩ := l_X1N_heaveOn_2 py po pt Dyo Dyt Dot _ _ _ _ _ _ _ hm Gy Go Gt ((congrFun Qy 0).trans Eo)
  exact ⟨x9, e9, Gy, Gt, Ry.trans Qy, fun a na => (F a na).trans (FR a na)⟩
