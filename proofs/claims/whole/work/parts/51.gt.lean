theorem u_si_P {n k : Nat} {s s' : g_S} {i x : Int32} (e : u_si n s k i x = some s') : g_P s' = g_P s := by
  unfold u_si at e
  split at e
  · cases e; rfl
  · cases e
theorem u_sl_P {n k : Nat} {s s' : g_S} {i : Int32} {x : Int64} (e : u_sl n s k i x = some s') : g_P s' = g_P s := by
  unfold u_sl at e
  split at e
  · cases e; rfl
  · cases e
theorem e_pi {α γ : Type} {Q : α → Prop} {o : Option γ} {f : γ → Option α} {A B : γ → Prop} (e : ∃ x, o = some x ∧ A x ∧ B x) (k : ∀ x, A x → B x → q_E (f x) Q) : q_E (o.bind f) Q := by
  obtain ⟨x, e, a, b⟩ := e
  exact e_bd e (k x a b)
theorem p_bd {α γ : Type} {ρ : α} {o : Option γ} {v : γ} {f : γ → Option α} (e : o = some v) (k : f v = some ρ) : o.bind f = some ρ := by rw [e]; exact k
theorem p_eq {α β γ : Type} {ρ : α} {τ : β} {o o' : Option γ} {f : γ → Option α} {g : γ → Option β} (e : o = o') (hm : o'.bind g = some τ) (k : ∀ w, g w = some τ → f w = some ρ) : o.bind f = some ρ := by
  rw [e]
  exact r_bd hm k
def t_X10_copyFrom (t q : g_S) : Option g_S :=
  let v1 := g_I q 0
  let t1 := g_si t 0 (v1)
  let v3 := g_I q 1
  let t2 := g_si t1 1 (v3)
  let v5 := g_I q 2
  let t3 := g_si t2 2 (v5)
  (u_cp 8 (g_A q 3) ((0 : Int32)) 8 t3 3 ((0 : Int32)) ((8 : Int32))).bind fun t4 =>
  (u_cp 8 (g_A q 4) ((0 : Int32)) 8 t4 4 ((0 : Int32)) ((8 : Int32))).bind fun t5 =>
  (u_cp 8 (g_A q 5) ((0 : Int32)) 8 t5 5 ((0 : Int32)) ((8 : Int32))).bind fun t6 =>
  (u_cp 8 (g_A q 6) ((0 : Int32)) 8 t6 6 ((0 : Int32)) ((8 : Int32))).bind fun t7 =>
  some t7
set_option maxRecDepth 20000 in
theorem l_X10_copyFrom (h : q_H) (pt pq : Nat) (t q : g_S) {t' : g_S} (hm : t_X10_copyFrom t q = some t') (Gt : g10 pt t h) (Gq : g10 pq q h) (Dtq : ∀ a, f10 pt a → f10 pq a → False) : q_E (m_X10_copyFrom h pt pq) (fun x => g10 pt t' (x) ∧ ∀ a, ¬ (f10 pt a) → (x) a = h a) := by
  unfold t_X10_copyFrom at hm
  unfold m_X10_copyFrom
  have FR : ∀ a, ¬ (f10 pt a) → h a = h a := fun _ _ => rfl
  refine e_bd (gi10_0 Gq) ?_
  refine e_pi (pi10_0 _ Gt) (fun h2 Gt F => ?_)
  have Gq := fr10 Gq (fun a ha => F a (fun hb => Dtq _ hb ha))
  have FR := fun a na => (F a (fun hb => na (hb))).trans (FR a na)
  refine e_bd (gi10_1 Gq) ?_
  refine e_pi (pi10_1 _ Gt) (fun h4 Gt F => ?_)
  have Gq := fr10 Gq (fun a ha => F a (fun hb => Dtq _ hb ha))
  have FR := fun a na => (F a (fun hb => na (hb))).trans (FR a na)
  refine e_bd (gi10_2 Gq) ?_
  refine e_pi (pi10_2 _ Gt) (fun h6 Gt F => ?_)
  have Gq := fr10 Gq (fun a ha => F a (fun hb => Dtq _ hb ha))
  have FR := fun a na => (F a (fun hb => na (hb))).trans (FR a na)
  refine e_bd (gn10_3 Gq) ?_
  refine e_bd (gn10_3 Gt) ?_
  obtain ⟨t4, e8, hm⟩ := q_b hm
  obtain ⟨h9, e9, Gt, F⟩ := cp10_3 Gt (cl10_3 Gq) e8
  refine e_bd e9 ?_
  have Gq := fr10 Gq (fun a ha => F a (fun hb => Dtq _ hb ha))
  have FR := fun a na => (F a (fun hb => na (hb))).trans (FR a na)
  refine e_bd (gn10_4 Gq) ?_
  refine e_bd (gn10_4 Gt) ?_
  obtain ⟨t5, e8, hm⟩ := q_b hm
  obtain ⟨h12, e9, Gt, F⟩ := cp10_4 Gt (cl10_4 Gq) e8
  refine e_bd e9 ?_
  have Gq := fr10 Gq (fun a ha => F a (fun hb => Dtq _ hb ha))
  have FR := fun a na => (F a (fun hb => na (hb))).trans (FR a na)
  refine e_bd (gn10_5 Gq) ?_
  refine e_bd (gn10_5 Gt) ?_
  obtain ⟨t6, e8, hm⟩ := q_b hm
  obtain ⟨h15, e9, Gt, F⟩ := cp10_5 Gt (cl10_5 Gq) e8
  refine e_bd e9 ?_
  have Gq := fr10 Gq (fun a ha => F a (fun hb => Dtq _ hb ha))
  have FR := fun a na => (F a (fun hb => na (hb))).trans (FR a na)
  refine e_bd (gn10_6 Gq) ?_
  refine e_bd (gn10_6 Gt) ?_
  obtain ⟨t7, e8, hm⟩ := q_b hm
  obtain ⟨h18, e9, Gt, F⟩ := cp10_6 Gt (cl10_6 Gq) e8
  refine e_bd e9 ?_
  have Gq := fr10 Gq (fun a ha => F a (fun hb => Dtq _ hb ha))
  have FR := fun a na => (F a (fun hb => na (hb))).trans (FR a na)
  obtain rfl := Option.some.inj hm
  exact ⟨_, rfl, Gt, FR⟩
def t_X10_isOver (t : g_S) (a1 : Int32) : Option Int32 :=
  let v1 := g_I t 0
  if a1 ≤ v1 then
    some ((1 : Int32))
  else
    let v2 := g_I t 0
    if (0 - a1) < v2 then
      some ((0 : Int32))
    else
      some ((1 : Int32))
set_option maxRecDepth 20000 in
theorem l_X10_isOver (h : q_H) (pt : Nat) (t : g_S) (a1 : Int32) {r : Int32} (hm : t_X10_isOver t a1 = some r) (Gt : g10 pt t h) : m_X10_isOver h pt a1 = some r := by
  unfold t_X10_isOver at hm
  unfold m_X10_isOver
  refine p_bd (gi10_0 Gt) ?_
  refine r_if _ _ hm (fun _ hm => ?_) (fun _ hm => ?_)
  · exact hm
  · refine p_bd (gi10_0 Gt) ?_
    refine r_if _ _ hm (fun _ hm => ?_) (fun _ hm => ?_)
    · exact hm
    · exact hm
def t_X10_setOnSide_29 (k5 : g_S → Int32 → Int32 → Int32 → Int32 → Option Int32) (t : g_S) (x1 : Int32) (x2 : Int32) (x3 : Int32) (x4 : Int32) : Option Int32 :=
  k5 t x1 x2 x3 ((x4 + (1 : Int32)))
set_option maxRecDepth 20000 in
theorem l_X10_setOnSide_29 (pt : Nat) {r : Int32} {k5 : g_S → Int32 → Int32 → Int32 → Int32 → Option Int32} {gk5 : q_H → Nat → Int32 → Int32 → Int32 → Int32 → Option Int32} (hk5 : ∀ (h : q_H) (t : g_S) (x1 : Int32) (x2 : Int32) (x3 : Int32) (x4 : Int32), k5 t x1 x2 x3 x4 = some r → g10 pt t h → gk5 h pt x1 x2 x3 x4 = some r) : ∀ (h : q_H) (t : g_S) (x1 : Int32) (x2 : Int32) (x3 : Int32) (x4 : Int32), t_X10_setOnSide_29 k5 t x1 x2 x3 x4 = some r → g10 pt t h → m_X10_setOnSide_29 gk5 h pt x1 x2 x3 x4 = some r := by
  intro h t x1 x2 x3 x4 hm Gt 
  unfold t_X10_setOnSide_29 at hm
  unfold m_X10_setOnSide_29
  exact hk5 _ _ _ _ _ _ hm Gt 
def t_X10_setOnSide_5  : Nat → g_S → Int32 → Int32 → Int32 → Int32 → Option Int32
  | 0, _, _, _, _, _ => none
  | n + 1, t, x1, x2, x3, x4 =>
    if x2 ≤ x4 then
      some x3
    else
      (t_ai 8 (g_A t 3) x4).bind fun v2 =>
      if v2 = x1 then
        t_X10_setOnSide_29 (t_X10_setOnSide_5 n) t x1 x2 ((x3 ||| ((1 : Int32) <<< (x4 &&& 31)))) x4
      else
        t_X10_setOnSide_29 (t_X10_setOnSide_5 n) t x1 x2 x3 x4
set_option maxRecDepth 20000 in
theorem l_X10_setOnSide_5 (pt : Nat) {r : Int32} : ∀ (n : Nat) (h : q_H) (t : g_S) (x1 : Int32) (x2 : Int32) (x3 : Int32) (x4 : Int32), t_X10_setOnSide_5 n t x1 x2 x3 x4 = some r → g10 pt t h → m_X10_setOnSide_5 n h pt x1 x2 x3 x4 = some r := by
  intro n
  induction n with
  | zero => intro h t x1 x2 x3 x4 hm Gt ; cases hm
  | succ n ih =>
    intro h t x1 x2 x3 x4 hm Gt 
    unfold t_X10_setOnSide_5 at hm
    unfold m_X10_setOnSide_5
    refine r_if _ _ hm (fun _ hm => ?_) (fun _ hm => ?_)
    · exact hm
    · refine p_bd (gn10_3 Gt) ?_
      refine p_eq (ai10_3 Gt _) hm (fun v2 hm => ?_)
      refine r_if _ _ hm (fun _ hm => ?_) (fun _ hm => ?_)
      · exact l_X10_setOnSide_29 pt ih _ _ _ _ _ _ hm Gt 
      · exact l_X10_setOnSide_29 pt ih _ _ _ _ _ _ hm Gt 
def t_X10_setOnSide (t : g_S) (a1 : Int32) (a2 : Int32) : Option Int32 :=
  t_X10_setOnSide_5 q_fu t a1 a2 ((0 : Int32)) ((0 : Int32))
set_option maxRecDepth 20000 in
theorem l_X10_setOnSide (h : q_H) (pt : Nat) (t : g_S) (a1 : Int32) (a2 : Int32) {r : Int32} (hm : t_X10_setOnSide t a1 a2 = some r) (Gt : g10 pt t h) : m_X10_setOnSide h pt a1 a2 = some r := by
  unfold t_X10_setOnSide at hm
  unfold m_X10_setOnSide
  exact l_X10_setOnSide_5 pt _ _ _ _ _ _ _ hm Gt 
def t_X10_stands (t : g_S) (a1 : Int32) : Option Int32 :=
  let v1 := g_I t 2
  if ((v1 >>> (a1 &&& 31)) &&& (1 : Int32)) = (1 : Int32) then
    some ((1 : Int32))
  else
    some ((0 : Int32))
set_option maxRecDepth 20000 in
theorem l_X10_stands (h : q_H) (pt : Nat) (t : g_S) (a1 : Int32) {r : Int32} (hm : t_X10_stands t a1 = some r) (Gt : g10 pt t h) : m_X10_stands h pt a1 = some r := by
  unfold t_X10_stands at hm
  unfold m_X10_stands
  refine p_bd (gi10_2 Gt) ?_
  refine r_if _ _ hm (fun _ hm => ?_) (fun _ hm => ?_)
  · exact hm
  · exact hm
def t_X10_towards (t : g_S) (a1 : Int32) : Option Int32 :=
  if a1 = 0 then
    let v2 := g_I t 0
    some ((0 - v2))
  else
    let v1 := g_I t 0
    some v1
set_option maxRecDepth 20000 in
theorem l_X10_towards (h : q_H) (pt : Nat) (t : g_S) (a1 : Int32) {r : Int32} (hm : t_X10_towards t a1 = some r) (Gt : g10 pt t h) : m_X10_towards h pt a1 = some r := by
  unfold t_X10_towards at hm
  unfold m_X10_towards
  refine r_if _ _ hm (fun _ hm => ?_) (fun _ hm => ?_)
  · refine p_bd (gi10_0 Gt) ?_
    exact hm
  · refine p_bd (gi10_0 Gt) ?_
    exact hm
def t_X4_everyone (o : g_S) : Option Int32 :=
  let v1 := g_I o 3
  some ((((1 : Int32) <<< (v1 &&& 31)) - (1 : Int32)))
set_option maxRecDepth 20000 in
theorem l_X4_everyone (h : q_H) (po : Nat) (o : g_S) {r : Int32} (hm : t_X4_everyone o = some r) (Go : g4 po o h) : m_X4_everyone h po = some r := by
  unfold t_X4_everyone at hm
  unfold m_X4_everyone
  refine p_bd (gi4_3 Go) ?_
  exact hm
def t_X9_byteAt (t : g_S) (a1 : Int32) : Option Int32 :=
  if a1 < 0 then
    some ((-1 : Int32))
  else
    let v1 := g_I t 1
    if a1 < v1 then
      (t_ai 400 (g_A t 0) a1).bind fun v3 =>
      some ((v3 &&& (255 : Int32)))
    else
      some ((-1 : Int32))
set_option maxRecDepth 20000 in
theorem l_X9_byteAt (h : q_H) (pt : Nat) (t : g_S) (a1 : Int32) {r : Int32} (hm : t_X9_byteAt t a1 = some r) (Gt : g9 pt t h) : m_X9_byteAt h pt a1 = some r := by
  unfold t_X9_byteAt at hm
  unfold m_X9_byteAt
  refine r_if _ _ hm (fun _ hm => ?_) (fun _ hm => ?_)
  · exact hm
  · refine p_bd (gi9_1 Gt) ?_
    refine r_if _ _ hm (fun _ hm => ?_) (fun _ hm => ?_)
    · refine p_bd (gn9_0 Gt) ?_
      refine p_eq (ai9_0 Gt _) hm (fun v3 hm => ?_)
      exact hm
    · exact hm
def t_X4_copyFrom (o q : g_S) : Option g_S :=
  let v1 := g_I q 0
  let o1 := g_si o 0 (v1)
  let v3 := g_I q 1
  let o2 := g_si o1 1 (v3)
  let v5 := g_I q 2
  let o3 := g_si o2 2 (v5)
  let v7 := g_I q 3
  let o4 := g_si o3 3 (v7)
  (u_cp 8 (g_A q 4) ((0 : Int32)) 8 o4 4 ((0 : Int32)) ((8 : Int32))).bind fun o5 =>
  (u_cp 8 (g_A q 5) ((0 : Int32)) 8 o5 5 ((0 : Int32)) ((8 : Int32))).bind fun o6 =>
  (u_cp 8 (g_A q 6) ((0 : Int32)) 8 o6 6 ((0 : Int32)) ((8 : Int32))).bind fun o7 =>
  (u_cp 8 (g_A q 7) ((0 : Int32)) 8 o7 7 ((0 : Int32)) ((8 : Int32))).bind fun o8 =>
  some o8
set_option maxRecDepth 20000 in
theorem l_X4_copyFrom (h : q_H) (po pq : Nat) (o q : g_S) {o' : g_S} (hm : t_X4_copyFrom o q = some o') (Go : g4 po o h) (Gq : g4 pq q h) (Doq : ∀ a, f4 po a → f4 pq a → False) : q_E (m_X4_copyFrom h po pq) (fun x => g4 po o' (x) ∧ ∀ a, ¬ (f4 po a) → (x) a = h a) := by
  unfold t_X4_copyFrom at hm
  unfold m_X4_copyFrom
  have FR : ∀ a, ¬ (f4 po a) → h a = h a := fun _ _ => rfl
  refine e_bd (gi4_0 Gq) ?_
  refine e_pi (pi4_0 _ Go) (fun h2 Go F => ?_)
  have Gq := fr4 Gq (fun a ha => F a (fun hb => Doq _ hb ha))
  have FR := fun a na => (F a (fun hb => na (hb))).trans (FR a na)
  refine e_bd (gi4_1 Gq) ?_
  refine e_pi (pi4_1 _ Go) (fun h4 Go F => ?_)
  have Gq := fr4 Gq (fun a ha => F a (fun hb => Doq _ hb ha))
  have FR := fun a na => (F a (fun hb => na (hb))).trans (FR a na)
  refine e_bd (gi4_2 Gq) ?_
  refine e_pi (pi4_2 _ Go) (fun h6 Go F => ?_)
  have Gq := fr4 Gq (fun a ha => F a (fun hb => Doq _ hb ha))
  have FR := fun a na => (F a (fun hb => na (hb))).trans (FR a na)
  refine e_bd (gi4_3 Gq) ?_
  refine e_pi (pi4_3 _ Go) (fun h8 Go F => ?_)
  have Gq := fr4 Gq (fun a ha => F a (fun hb => Doq _ hb ha))
  have FR := fun a na => (F a (fun hb => na (hb))).trans (FR a na)
  refine e_bd (gn4_4 Gq) ?_
  refine e_bd (gn4_4 Go) ?_
  obtain ⟨o5, e8, hm⟩ := q_b hm
  obtain ⟨h11, e9, Go, F⟩ := cp4_4 Go (cl4_4 Gq) e8
  refine e_bd e9 ?_
  have Gq := fr4 Gq (fun a ha => F a (fun hb => Doq _ hb ha))
  have FR := fun a na => (F a (fun hb => na (hb))).trans (FR a na)
  refine e_bd (gn4_5 Gq) ?_
  refine e_bd (gn4_5 Go) ?_
  obtain ⟨o6, e8, hm⟩ := q_b hm
  obtain ⟨h14, e9, Go, F⟩ := cp4_5 Go (cl4_5 Gq) e8
  refine e_bd e9 ?_
  have Gq := fr4 Gq (fun a ha => F a (fun hb => Doq _ hb ha))
  have FR := fun a na => (F a (fun hb => na (hb))).trans (FR a na)
  refine e_bd (gn4_6 Gq) ?_
  refine e_bd (gn4_6 Go) ?_
  obtain ⟨o7, e8, hm⟩ := q_b hm
  obtain ⟨h17, e9, Go, F⟩ := cp4_6 Go (cl4_6 Gq) e8
  refine e_bd e9 ?_
  have Gq := fr4 Gq (fun a ha => F a (fun hb => Doq _ hb ha))
  have FR := fun a na => (F a (fun hb => na (hb))).trans (FR a na)
  refine e_bd (gn4_7 Gq) ?_
  refine e_bd (gn4_7 Go) ?_
  obtain ⟨o8, e8, hm⟩ := q_b hm
  obtain ⟨h20, e9, Go, F⟩ := cp4_7 Go (cl4_7 Gq) e8
  refine e_bd e9 ?_
  have Gq := fr4 Gq (fun a ha => F a (fun hb => Doq _ hb ha))
  have FR := fun a na => (F a (fun hb => na (hb))).trans (FR a na)
  obtain rfl := Option.some.inj hm
  exact ⟨_, rfl, Go, FR⟩
def t_X4_weightOf_30 (k4 : g_S → Int32 → Int32 → Int32 → Option Int32) (o : g_S) (x1 : Int32) (x2 : Int32) (x3 : Int32) : Option Int32 :=
  k4 o x1 x2 ((x3 + (1 : Int32)))
set_option maxRecDepth 20000 in
theorem l_X4_weightOf_30 (po : Nat) {r : Int32} {k4 : g_S → Int32 → Int32 → Int32 → Option Int32} {gk4 : q_H → Nat → Int32 → Int32 → Int32 → Option Int32} (hk4 : ∀ (h : q_H) (o : g_S) (x1 : Int32) (x2 : Int32) (x3 : Int32), k4 o x1 x2 x3 = some r → g4 po o h → gk4 h po x1 x2 x3 = some r) : ∀ (h : q_H) (o : g_S) (x1 : Int32) (x2 : Int32) (x3 : Int32), t_X4_weightOf_30 k4 o x1 x2 x3 = some r → g4 po o h → m_X4_weightOf_30 gk4 h po x1 x2 x3 = some r := by
  intro h o x1 x2 x3 hm Go 
  unfold t_X4_weightOf_30 at hm
  unfold m_X4_weightOf_30
  exact hk4 _ _ _ _ _ hm Go 
def t_X4_weightOf_4  : Nat → g_S → Int32 → Int32 → Int32 → Option Int32
  | 0, _, _, _, _ => none
  | n + 1, o, x1, x2, x3 =>
    let v1 := g_I o 3
    if v1 ≤ x3 then
      some x2
    else
      if ((x1 >>> (x3 &&& 31)) &&& (1 : Int32)) = (1 : Int32) then
        (t_ai 8 (g_A o 5) x3).bind fun v3 =>
        t_X4_weightOf_30 (t_X4_weightOf_4 n) o x1 ((x2 + v3)) x3
      else
        t_X4_weightOf_30 (t_X4_weightOf_4 n) o x1 x2 x3
set_option maxRecDepth 20000 in
theorem l_X4_weightOf_4 (po : Nat) {r : Int32} : ∀ (n : Nat) (h : q_H) (o : g_S) (x1 : Int32) (x2 : Int32) (x3 : Int32), t_X4_weightOf_4 n o x1 x2 x3 = some r → g4 po o h → m_X4_weightOf_4 n h po x1 x2 x3 = some r := by
  intro n
  induction n with
  | zero => intro h o x1 x2 x3 hm Go ; cases hm
  | succ n ih =>
    intro h o x1 x2 x3 hm Go 
    unfold t_X4_weightOf_4 at hm
    unfold m_X4_weightOf_4
    refine p_bd (gi4_3 Go) ?_
    refine r_if _ _ hm (fun _ hm => ?_) (fun _ hm => ?_)
    · exact hm
    · refine r_if _ _ hm (fun _ hm => ?_) (fun _ hm => ?_)
      · refine p_bd (gn4_5 Go) ?_
        refine p_eq (ai4_5 Go _) hm (fun v3 hm => ?_)
        exact l_X4_weightOf_30 po ih _ _ _ _ _ hm Go 
      · exact l_X4_weightOf_30 po ih _ _ _ _ _ hm Go 
def t_X4_weightOf (o : g_S) (a1 : Int32) : Option Int32 :=
  t_X4_weightOf_4 q_fu o a1 ((0 : Int32)) ((0 : Int32))
set_option maxRecDepth 20000 in
theorem l_X4_weightOf (h : q_H) (po : Nat) (o : g_S) (a1 : Int32) {r : Int32} (hm : t_X4_weightOf o a1 = some r) (Go : g4 po o h) : m_X4_weightOf h po a1 = some r := by
  unfold t_X4_weightOf at hm
  unfold m_X4_weightOf
  exact l_X4_weightOf_4 po _ _ _ _ _ _ hm Go 
def t_X4_differenceBy (o : g_S) (a1 : Int32) : Option Int32 :=
  (t_X4_everyone o).bind fun r1 =>
  (t_X4_weightOf o r1).bind fun r3 =>
  (t_X4_weightOf o a1).bind fun r5 =>
  some ((if 0 ≤ (r3 - ((2 : Int32) * r5)) then (r3 - ((2 : Int32) * r5)) else 0 - (r3 - ((2 : Int32) * r5))))
set_option maxRecDepth 20000 in
theorem l_X4_differenceBy (h : q_H) (po : Nat) (o : g_S) (a1 : Int32) {r : Int32} (hm : t_X4_differenceBy o a1 = some r) (Go : g4 po o h) : m_X4_differenceBy h po a1 = some r := by
  unfold t_X4_differenceBy at hm
  unfold m_X4_differenceBy
  obtain ⟨r1, e8, hm⟩ := q_b hm
  refine p_bd ((ca4 Go).trans (l_X4_everyone _ _ _ e8 Go  )) ?_
  obtain ⟨r3, e8, hm⟩ := q_b hm
  refine p_bd ((ca4 Go).trans (l_X4_weightOf _ _ _ _ e8 Go  )) ?_
  obtain ⟨r5, e8, hm⟩ := q_b hm
  refine p_bd ((ca4 Go).trans (l_X4_weightOf _ _ _ _ e8 Go  )) ?_
  exact hm
def t_X4_outweighs (o : g_S) (a1 : Int32) : Option Int32 :=
  (t_X4_weightOf o a1).bind fun r1 =>
  (t_X4_everyone o).bind fun r3 =>
  (t_X4_weightOf o r3).bind fun r5 =>
  if ((2 : Int32) * r1) ≤ r5 then
    some ((0 : Int32))
  else
    some ((1 : Int32))
set_option maxRecDepth 20000 in
theorem l_X4_outweighs (h : q_H) (po : Nat) (o : g_S) (a1 : Int32) {r : Int32} (hm : t_X4_outweighs o a1 = some r) (Go : g4 po o h) : m_X4_outweighs h po a1 = some r := by
  unfold t_X4_outweighs at hm
  unfold m_X4_outweighs
  obtain ⟨r1, e8, hm⟩ := q_b hm
  refine p_bd ((ca4 Go).trans (l_X4_weightOf _ _ _ _ e8 Go  )) ?_
  obtain ⟨r3, e8, hm⟩ := q_b hm
  refine p_bd ((ca4 Go).trans (l_X4_everyone _ _ _ e8 Go  )) ?_
  obtain ⟨r5, e8, hm⟩ := q_b hm
  refine p_bd ((ca4 Go).trans (l_X4_weightOf _ _ _ _ e8 Go  )) ?_
  refine r_if _ _ hm (fun _ hm => ?_) (fun _ hm => ?_)
  · exact hm
  · exact hm
def t_X4_fairestSet_36 (k10 : g_S → Int32 → Int32 → Int32 → Option Int32) (o : g_S) (x1 : Int32) (x2 : Int32) (x3 : Int32) : Option Int32 :=
  k10 o x1 x2 ((x3 + (1 : Int32)))
set_option maxRecDepth 20000 in
theorem l_X4_fairestSet_36 (po : Nat) {r : Int32} {k10 : g_S → Int32 → Int32 → Int32 → Option Int32} {gk10 : q_H → Nat → Int32 → Int32 → Int32 → Option Int32} (hk10 : ∀ (h : q_H) (o : g_S) (x1 : Int32) (x2 : Int32) (x3 : Int32), k10 o x1 x2 x3 = some r → g4 po o h → gk10 h po x1 x2 x3 = some r) : ∀ (h : q_H) (o : g_S) (x1 : Int32) (x2 : Int32) (x3 : Int32), t_X4_fairestSet_36 k10 o x1 x2 x3 = some r → g4 po o h → m_X4_fairestSet_36 gk10 h po x1 x2 x3 = some r := by
  intro h o x1 x2 x3 hm Go 
  unfold t_X4_fairestSet_36 at hm
  unfold m_X4_fairestSet_36
  exact hk10 _ _ _ _ _ hm Go 
def t_X4_fairestSet_10  : Nat → g_S → Int32 → Int32 → Int32 → Option Int32
  | 0, _, _, _, _ => none
  | n + 1, o, x1, x2, x3 =>
    (t_X4_everyone o).bind fun r3 =>
    if r3 < x3 then
      some x1
    else
      (t_X4_differenceBy o x3).bind fun r5 =>
      if x2 ≤ r5 then
        t_X4_fairestSet_36 (t_X4_fairestSet_10 n) o x1 x2 x3
      else
        t_X4_fairestSet_36 (t_X4_fairestSet_10 n) o x3 r5 x3
set_option maxRecDepth 20000 in
theorem l_X4_fairestSet_10 (po : Nat) {r : Int32} : ∀ (n : Nat) (h : q_H) (o : g_S) (x1 : Int32) (x2 : Int32) (x3 : Int32), t_X4_fairestSet_10 n o x1 x2 x3 = some r → g4 po o h → m_X4_fairestSet_10 n h po x1 x2 x3 = some r := by
  intro n
  induction n with
  | zero => intro h o x1 x2 x3 hm Go ; cases hm
  | succ n ih =>
    intro h o x1 x2 x3 hm Go 
    unfold t_X4_fairestSet_10 at hm
    unfold m_X4_fairestSet_10
    obtain ⟨r3, e8, hm⟩ := q_b hm
    refine p_bd ((ca4 Go).trans (l_X4_everyone _ _ _ e8 Go  )) ?_
    refine r_if _ _ hm (fun _ hm => ?_) (fun _ hm => ?_)
    · exact hm
    · obtain ⟨r5, e8, hm⟩ := q_b hm
      refine p_bd ((ca4 Go).trans (l_X4_differenceBy _ _ _ _ e8 Go  )) ?_
      refine r_if _ _ hm (fun _ hm => ?_) (fun _ hm => ?_)
      · exact l_X4_fairestSet_36 po ih _ _ _ _ _ hm Go 
      · exact l_X4_fairestSet_36 po ih _ _ _ _ _ hm Go 
def t_X4_fairestSet (o : g_S) : Option Int32 :=
  (t_X4_differenceBy o ((0 : Int32))).bind fun r1 =>
  t_X4_fairestSet_10 q_fu o ((0 : Int32)) r1 ((1 : Int32))
set_option maxRecDepth 20000 in
theorem l_X4_fairestSet (h : q_H) (po : Nat) (o : g_S) {r : Int32} (hm : t_X4_fairestSet o = some r) (Go : g4 po o h) : m_X4_fairestSet h po = some r := by
  unfold t_X4_fairestSet at hm
  unfold m_X4_fairestSet
  obtain ⟨r1, e8, hm⟩ := q_b hm
  refine p_bd ((ca4 Go).trans (l_X4_differenceBy _ _ _ _ e8 Go  )) ?_
  exact l_X4_fairestSet_10 po _ _ _ _ _ _ hm Go 
def t_X4_smallestSet_35 (k10 : g_S → Int32 → Int32 → Option Int32) (o : g_S) (x1 : Int32) (x2 : Int32) : Option Int32 :=
  k10 o x1 ((x2 + (-1 : Int32)))
set_option maxRecDepth 20000 in
theorem l_X4_smallestSet_35 (po : Nat) {r : Int32} {k10 : g_S → Int32 → Int32 → Option Int32} {gk10 : q_H → Nat → Int32 → Int32 → Option Int32} (hk10 : ∀ (h : q_H) (o : g_S) (x1 : Int32) (x2 : Int32), k10 o x1 x2 = some r → g4 po o h → gk10 h po x1 x2 = some r) : ∀ (h : q_H) (o : g_S) (x1 : Int32) (x2 : Int32), t_X4_smallestSet_35 k10 o x1 x2 = some r → g4 po o h → m_X4_smallestSet_35 gk10 h po x1 x2 = some r := by
  intro h o x1 x2 hm Go 
  unfold t_X4_smallestSet_35 at hm
  unfold m_X4_smallestSet_35
  exact hk10 _ _ _ _ hm Go 
def t_X4_smallestSet_10  : Nat → g_S → Int32 → Int32 → Option Int32
  | 0, _, _, _ => none
  | n + 1, o, x1, x2 =>
    if x2 < 0 then
      some x1
    else
      (m_J6_bitCount_0f7a4 x2).bind fun r5 =>
      (m_J6_bitCount_0f7a4 x1).bind fun r7 =>
      if r7 < r5 then
        t_X4_smallestSet_35 (t_X4_smallestSet_10 n) o x1 x2
      else
        (t_X4_outweighs o x2).bind fun r9 =>
        if r9 = 0 then
          t_X4_smallestSet_35 (t_X4_smallestSet_10 n) o x1 x2
        else
          t_X4_smallestSet_35 (t_X4_smallestSet_10 n) o x2 x2
set_option maxRecDepth 20000 in
theorem l_X4_smallestSet_10 (po : Nat) {r : Int32} : ∀ (n : Nat) (h : q_H) (o : g_S) (x1 : Int32) (x2 : Int32), t_X4_smallestSet_10 n o x1 x2 = some r → g4 po o h → m_X4_smallestSet_10 n h po x1 x2 = some r := by
  intro n
  induction n with
  | zero => intro h o x1 x2 hm Go ; cases hm
  | succ n ih =>
    intro h o x1 x2 hm Go 
    unfold t_X4_smallestSet_10 at hm
    unfold m_X4_smallestSet_10
    refine r_if _ _ hm (fun _ hm => ?_) (fun _ hm => ?_)
    · exact hm
    · refine r_bd hm (fun r5 hm => ?_)
      refine r_bd hm (fun r7 hm => ?_)
      refine r_if _ _ hm (fun _ hm => ?_) (fun _ hm => ?_)
      · exact l_X4_smallestSet_35 po ih _ _ _ _ hm Go 
      · obtain ⟨r9, e8, hm⟩ := q_b hm
        refine p_bd ((ca4 Go).trans (l_X4_outweighs _ _ _ _ e8 Go  )) ?_
        refine r_if _ _ hm (fun _ hm => ?_) (fun _ hm => ?_)
        · exact l_X4_smallestSet_35 po ih _ _ _ _ hm Go 
        · exact l_X4_smallestSet_35 po ih _ _ _ _ hm Go 
def t_X4_smallestSet (o : g_S) : Option Int32 :=
  (t_X4_everyone o).bind fun r1 =>
  (t_X4_everyone o).bind fun r3 =>
  t_X4_smallestSet_10 q_fu o r1 r3
set_option maxRecDepth 20000 in
theorem l_X4_smallestSet (h : q_H) (po : Nat) (o : g_S) {r : Int32} (hm : t_X4_smallestSet o = some r) (Go : g4 po o h) : m_X4_smallestSet h po = some r := by
  unfold t_X4_smallestSet at hm
  unfold m_X4_smallestSet
  obtain ⟨r1, e8, hm⟩ := q_b hm
  refine p_bd ((ca4 Go).trans (l_X4_everyone _ _ _ e8 Go  )) ?_
  obtain ⟨r3, e8, hm⟩ := q_b hm
  refine p_bd ((ca4 Go).trans (l_X4_everyone _ _ _ e8 Go  )) ?_
  exact l_X4_smallestSet_10 po _ _ _ _ _ hm Go 
def t_X4_neededSet_35 (k4 : g_S → Int32 → Int32 → Option Int32) (o : g_S) (x1 : Int32) (x2 : Int32) : Option Int32 :=
  k4 o x1 ((x2 + (1 : Int32)))
set_option maxRecDepth 20000 in
theorem l_X4_neededSet_35 (po : Nat) {r : Int32} {k4 : g_S → Int32 → Int32 → Option Int32} {gk4 : q_H → Nat → Int32 → Int32 → Option Int32} (hk4 : ∀ (h : q_H) (o : g_S) (x1 : Int32) (x2 : Int32), k4 o x1 x2 = some r → g4 po o h → gk4 h po x1 x2 = some r) : ∀ (h : q_H) (o : g_S) (x1 : Int32) (x2 : Int32), t_X4_neededSet_35 k4 o x1 x2 = some r → g4 po o h → m_X4_neededSet_35 gk4 h po x1 x2 = some r := by
  intro h o x1 x2 hm Go 
  unfold t_X4_neededSet_35 at hm
  unfold m_X4_neededSet_35
  exact hk4 _ _ _ _ hm Go 
def t_X4_neededSet_4  : Nat → g_S → Int32 → Int32 → Option Int32
  | 0, _, _, _ => none
  | n + 1, o, x1, x2 =>
    let v1 := g_I o 3
    if v1 ≤ x2 then
      some x1
    else
      (t_X4_everyone o).bind fun r2 =>
      (t_X4_outweighs o ((r2 &&& (((1 : Int32) <<< (x2 &&& 31)) ^^^ (-1 : Int32))))).bind fun r4 =>
      if r4 = 0 then
        t_X4_neededSet_35 (t_X4_neededSet_4 n) o ((x1 ||| ((1 : Int32) <<< (x2 &&& 31)))) x2
      else
        t_X4_neededSet_35 (t_X4_neededSet_4 n) o x1 x2
set_option maxRecDepth 20000 in
theorem l_X4_neededSet_4 (po : Nat) {r : Int32} : ∀ (n : Nat) (h : q_H) (o : g_S) (x1 : Int32) (x2 : Int32), t_X4_neededSet_4 n o x1 x2 = some r → g4 po o h → m_X4_neededSet_4 n h po x1 x2 = some r := by
  intro n
  induction n with
  | zero => intro h o x1 x2 hm Go ; cases hm
  | succ n ih =>
    intro h o x1 x2 hm Go 
    unfold t_X4_neededSet_4 at hm
    unfold m_X4_neededSet_4
    refine p_bd (gi4_3 Go) ?_
    refine r_if _ _ hm (fun _ hm => ?_) (fun _ hm => ?_)
    · exact hm
    · obtain ⟨r2, e8, hm⟩ := q_b hm
      refine p_bd ((ca4 Go).trans (l_X4_everyone _ _ _ e8 Go  )) ?_
      obtain ⟨r4, e8, hm⟩ := q_b hm
      refine p_bd ((ca4 Go).trans (l_X4_outweighs _ _ _ _ e8 Go  )) ?_
      refine r_if _ _ hm (fun _ hm => ?_) (fun _ hm => ?_)
      · exact l_X4_neededSet_35 po ih _ _ _ _ hm Go 
      · exact l_X4_neededSet_35 po ih _ _ _ _ hm Go 
def t_X4_neededSet (o : g_S) : Option Int32 :=
  t_X4_neededSet_4 q_fu o ((0 : Int32)) ((0 : Int32))
set_option maxRecDepth 20000 in
theorem l_X4_neededSet (h : q_H) (po : Nat) (o : g_S) {r : Int32} (hm : t_X4_neededSet o = some r) (Go : g4 po o h) : m_X4_neededSet h po = some r := by
  unfold t_X4_neededSet at hm
  unfold m_X4_neededSet
  exact l_X4_neededSet_4 po _ _ _ _ _ hm Go 
def t_X10_changePlaces (t : g_S) (a1 : Int32) (a2 : Int32) : Option g_S :=
  (t_ai 8 (g_A t 3) a1).bind fun v2 =>
  (t_ai 8 (g_A t 4) a1).bind fun v4 =>
  (t_ai 8 (g_A t 3) a2).bind fun v7 =>
  (u_si 8 t 3 a1 v7).bind fun t1 =>
  (t_ai 8 (g_A t1 4) a2).bind fun v11 =>
  (u_si 8 t1 4 a1 v11).bind fun t2 =>
  (u_si 8 t2 3 a2 v2).bind fun t3 =>
  (u_si 8 t3 4 a2 v4).bind fun t4 =>
  some t4
set_option maxRecDepth 20000 in
theorem l_X10_changePlaces (h : q_H) (pt : Nat) (t : g_S) (a1 : Int32) (a2 : Int32) {t' : g_S} (hm : t_X10_changePlaces t a1 a2 = some t') (Gt : g10 pt t h) : q_E (m_X10_changePlaces h pt a1 a2) (fun x => g10 pt t' (x) ∧ ∀ a, ¬ (f10 pt a) → (x) a = h a) := by
  unfold t_X10_changePlaces at hm
  unfold m_X10_changePlaces
  have FR : ∀ a, ¬ (f10 pt a) → h a = h a := fun _ _ => rfl
  refine e_bd (gn10_3 Gt) ?_
  refine e_eq (ai10_3 Gt _) hm (fun v2 hm => ?_)
  refine e_bd (gn10_4 Gt) ?_
  refine e_eq (ai10_4 Gt _) hm (fun v4 hm => ?_)
  refine e_bd (gn10_3 Gt) ?_
  refine e_bd (gn10_3 Gt) ?_
  refine e_eq (ai10_3 Gt _) hm (fun v7 hm => ?_)
  obtain ⟨t1, e8, hm⟩ := q_b hm
  obtain ⟨h8, e9, Gt, F⟩ := as10_3 Gt e8
  refine e_bd e9 ?_
  have FR := fun a na => (F a (fun hb => na (hb))).trans (FR a na)
  refine e_bd (gn10_4 Gt) ?_
  refine e_bd (gn10_4 Gt) ?_
  refine e_eq (ai10_4 Gt _) hm (fun v11 hm => ?_)
  obtain ⟨t2, e8, hm⟩ := q_b hm
  obtain ⟨h12, e9, Gt, F⟩ := as10_4 Gt e8
  refine e_bd e9 ?_
  have FR := fun a na => (F a (fun hb => na (hb))).trans (FR a na)
  refine e_bd (gn10_3 Gt) ?_
  obtain ⟨t3, e8, hm⟩ := q_b hm
  obtain ⟨h14, e9, Gt, F⟩ := as10_3 Gt e8
  refine e_bd e9 ?_
  have FR := fun a na => (F a (fun hb => na (hb))).trans (FR a na)
  refine e_bd (gn10_4 Gt) ?_
  obtain ⟨t4, e8, hm⟩ := q_b hm
  obtain ⟨h16, e9, Gt, F⟩ := as10_4 Gt e8
  refine e_bd e9 ?_
  have FR := fun a na => (F a (fun hb => na (hb))).trans (FR a na)
  obtain rfl := Option.some.inj hm
  exact ⟨_, rfl, Gt, FR⟩
def t_X10_begin_66 (k25 : g_S → g_S → Int32 → Int32 → Option g_S) (t o : g_S) (x2 : Int32) (x3 : Int32) (s0 : Int32) (s1 : Int32) : Option g_S :=
  (u_si 8 t 4 s1 s0).bind fun t5 =>
  (t_ai 8 (g_A t5 3) x3).bind fun v17 =>
  (t_ai 8 (g_A o 6) x3).bind fun v20 =>
  (u_si 8 t5 5 x3 v20).bind fun t6 =>
  (u_si 8 t6 6 x3 ((0 : Int32))).bind fun t7 =>
  k25 t7 o ((x2 + v17)) ((x3 + (1 : Int32)))
set_option maxRecDepth 20000 in
theorem l_X10_begin_66 (pt po : Nat) (Dto : ∀ a, f10 pt a → f4 po a → False) {t' : g_S} {k25 : g_S → g_S → Int32 → Int32 → Option g_S} {gk25 : q_H → Nat → Nat → Int32 → Int32 → Option q_H} (hk25 : ∀ (h : q_H) (t o : g_S) (x2 : Int32) (x3 : Int32), k25 t o x2 x3 = some t' → g10 pt t h → g4 po o h → q_E (gk25 h pt po x2 x3) (fun x => g10 pt t' (x) ∧ ∀ a, ¬ (f10 pt a) → (x) a = h a)) : ∀ (h : q_H) (t o : g_S) (x2 : Int32) (x3 : Int32) (s0 : Int32) (s1 : Int32), t_X10_begin_66 k25 t o x2 x3 s0 s1 = some t' → g10 pt t h → g4 po o h → q_E (m_X10_begin_66 gk25 h pt po x2 x3 s0 s1 (pt + 2)) (fun x => g10 pt t' (x) ∧ ∀ a, ¬ (f10 pt a) → (x) a = h a) := by
  intro h t o x2 x3 s0 s1 hm Gt Go 
  unfold t_X10_begin_66 at hm
  unfold m_X10_begin_66
  have FR : ∀ a, ¬ (f10 pt a) → h a = h a := fun _ _ => rfl
  obtain ⟨t5, e8, hm⟩ := q_b hm
  obtain ⟨h15, e9, Gt, F⟩ := as10_4 Gt e8
  refine e_bd e9 ?_
  have Go := fr4 Go (fun a ha => F a (fun hb => Dto _ hb ha))
  have FR := fun a na => (F a (fun hb => na (hb))).trans (FR a na)
  refine e_bd (gn10_3 Gt) ?_
  refine e_eq (ai10_3 Gt _) hm (fun v17 hm => ?_)
  refine e_bd (gn10_5 Gt) ?_
  refine e_bd (gn4_6 Go) ?_
  refine e_eq (ai4_6 Go _) hm (fun v20 hm => ?_)
  obtain ⟨t6, e8, hm⟩ := q_b hm
  obtain ⟨h21, e9, Gt, F⟩ := as10_5 Gt e8
  refine e_bd e9 ?_
  have Go := fr4 Go (fun a ha => F a (fun hb => Dto _ hb ha))
  have FR := fun a na => (F a (fun hb => na (hb))).trans (FR a na)
  refine e_bd (gn10_6 Gt) ?_
  obtain ⟨t7, e8, hm⟩ := q_b hm
  obtain ⟨h23, e9, Gt, F⟩ := as10_6 Gt e8
  refine e_bd e9 ?_
  have Go := fr4 Go (fun a ha => F a (fun hb => Dto _ hb ha))
  have FR := fun a na => (F a (fun hb => na (hb))).trans (FR a na)
  obtain ⟨x9, e9, Gt, F⟩ := hk25 _ _ _ _ _ hm Gt Go 
  exact ⟨x9, e9, Gt, fun a na => (F a na).trans (FR a na)⟩
def t_X10_begin_25  : Nat → g_S → g_S → Int32 → Int32 → Option g_S
  | 0, _, _, _, _ => none
  | n + 1, t, o, x2, x3 =>
    let v7 := g_I o 3
    if v7 ≤ x3 then
      some t
    else
      (t_ai 8 (g_A o 4) x3).bind fun v10 =>
      (u_si 8 t 3 x3 v10).bind fun t4 =>
      (t_ai 8 (g_A t4 3) x3).bind fun v14 =>
      if v14 = 0 then
        t_X10_begin_66 (t_X10_begin_25 n) t4 o x2 x3 ((x3 - x2)) x3
      else
        t_X10_begin_66 (t_X10_begin_25 n) t4 o x2 x3 x2 x3
set_option maxRecDepth 20000 in
theorem l_X10_begin_25 (pt po : Nat) (Dto : ∀ a, f10 pt a → f4 po a → False) {t' : g_S} : ∀ (n : Nat) (h : q_H) (t o : g_S) (x2 : Int32) (x3 : Int32), t_X10_begin_25 n t o x2 x3 = some t' → g10 pt t h → g4 po o h → q_E (m_X10_begin_25 n h pt po x2 x3) (fun x => g10 pt t' (x) ∧ ∀ a, ¬ (f10 pt a) → (x) a = h a) := by
  intro n
  induction n with
  | zero => intro h t o x2 x3 hm Gt Go ; cases hm
  | succ n ih =>
    intro h t o x2 x3 hm Gt Go 
    unfold t_X10_begin_25 at hm
    unfold m_X10_begin_25
    have FR : ∀ a, ¬ (f10 pt a) → h a = h a := fun _ _ => rfl
    refine e_bd (gi4_3 Go) ?_
    refine e_if hm (fun _ hm => ?_) (fun _ hm => ?_)
    · obtain rfl := Option.some.inj hm
      exact ⟨_, rfl, Gt, FR⟩
    · refine e_bd (gn10_3 Gt) ?_
      refine e_bd (gn4_4 Go) ?_
      refine e_eq (ai4_4 Go _) hm (fun v10 hm => ?_)
      obtain ⟨t4, e8, hm⟩ := q_b hm
      obtain ⟨h11, e9, Gt, F⟩ := as10_3 Gt e8
      refine e_bd e9 ?_
      have Go := fr4 Go (fun a ha => F a (fun hb => Dto _ hb ha))
      have FR := fun a na => (F a (fun hb => na (hb))).trans (FR a na)
      refine e_bd (gn10_4 Gt) ?_
      refine e_bd (gn10_3 Gt) ?_
      refine e_eq (ai10_3 Gt _) hm (fun v14 hm => ?_)
      refine e_if hm (fun _ hm => ?_) (fun _ hm => ?_)
      · obtain ⟨x9, e9, Gt, F⟩ := l_X10_begin_66 pt po Dto ih _ _ _ _ _ _ _ hm Gt Go 
        exact ⟨x9, e9, Gt, fun a na => (F a na).trans (FR a na)⟩
      · obtain ⟨x9, e9, Gt, F⟩ := l_X10_begin_66 pt po Dto ih _ _ _ _ _ _ _ hm Gt Go 
        exact ⟨x9, e9, Gt, fun a na => (F a na).trans (FR a na)⟩
def t_X10_begin (t o : g_S) : Option g_S :=
  let v1 := g_I o 2
  let t1 := g_si t 0 (v1)
  let t2 := g_si t1 1 (0 : Int32)
  (t_X4_everyone o).bind fun r4 =>
  let t3 := g_si t2 2 (r4)
  t_X10_begin_25 q_fu t3 o ((0 : Int32)) ((0 : Int32))
set_option maxRecDepth 20000 in
theorem l_X10_begin (h : q_H) (pt po : Nat) (t o : g_S) {t' : g_S} (hm : t_X10_begin t o = some t') (Gt : g10 pt t h) (Go : g4 po o h) (Dto : ∀ a, f10 pt a → f4 po a → False) : q_E (m_X10_begin h pt po) (fun x => g10 pt t' (x) ∧ ∀ a, ¬ (f10 pt a) → (x) a = h a) := by
  unfold t_X10_begin at hm
  unfold m_X10_begin
  have FR : ∀ a, ¬ (f10 pt a) → h a = h a := fun _ _ => rfl
  refine e_bd (gi4_2 Go) ?_
  refine e_pi (pi10_0 _ Gt) (fun h2 Gt F => ?_)
  have Go := fr4 Go (fun a ha => F a (fun hb => Dto _ hb ha))
  have FR := fun a na => (F a (fun hb => na (hb))).trans (FR a na)
  refine e_pi (pi10_1 _ Gt) (fun h3 Gt F => ?_)
  have Go := fr4 Go (fun a ha => F a (fun hb => Dto _ hb ha))
  have FR := fun a na => (F a (fun hb => na (hb))).trans (FR a na)
  obtain ⟨r4, e8, hm⟩ := q_b hm
  refine e_bd ((ca4 Go).trans (l_X4_everyone _ _ _ e8 Go  )) ?_
  refine e_pi (pi10_2 _ Gt) (fun h6 Gt F => ?_)
  have Go := fr4 Go (fun a ha => F a (fun hb => Dto _ hb ha))
  have FR := fun a na => (F a (fun hb => na (hb))).trans (FR a na)
  obtain ⟨x9, e9, Gt, F⟩ := l_X10_begin_25 pt po Dto _ _ _ _ _ _ hm Gt Go 
  exact ⟨x9, e9, Gt, fun a na => (F a na).trans (FR a na)⟩
def t_X10_likeness_21  : Nat → g_S → Int32 → Int64 → Int32 → Option Int64
  | 0, _, _, _, _ => none
  | n + 1, t, x1, x2, x4 =>
    if x1 ≤ x4 then
      some x2
    else
      (t_ai 8 (g_A t 5) x4).bind fun v4 =>
      t_X10_likeness_21 n t x1 (((x2 <<< (((6 : Int32)).toInt64 &&& 63)) ||| v4.toInt64)) ((x4 + (1 : Int32)))
set_option maxRecDepth 20000 in
theorem l_X10_likeness_21 (pt : Nat) {r : Int64} : ∀ (n : Nat) (h : q_H) (t : g_S) (x1 : Int32) (x2 : Int64) (x4 : Int32), t_X10_likeness_21 n t x1 x2 x4 = some r → g10 pt t h → m_X10_likeness_21 n h pt x1 x2 x4 = some r := by
  intro n
  induction n with
  | zero => intro h t x1 x2 x4 hm Gt ; cases hm
  | succ n ih =>
    intro h t x1 x2 x4 hm Gt 
    unfold t_X10_likeness_21 at hm
    unfold m_X10_likeness_21
    refine r_if _ _ hm (fun _ hm => ?_) (fun _ hm => ?_)
    · exact hm
    · refine p_bd (gn10_5 Gt) ?_
      refine p_eq (ai10_5 Gt _) hm (fun v4 hm => ?_)
      exact ih _ _ _ _ _ hm Gt 
def t_X10_likeness (t : g_S) (a1 : Int32) : Option Int64 :=
  let v1 := g_I t 0
  let v2 := g_I t 2
  t_X10_likeness_21 q_fu t a1 (((((v1 + (100 : Int32))).toInt64 <<< (((8 : Int32)).toInt64 &&& 63)) ||| v2.toInt64)) ((0 : Int32))
set_option maxRecDepth 20000 in
theorem l_X10_likeness (h : q_H) (pt : Nat) (t : g_S) (a1 : Int32) {r : Int64} (hm : t_X10_likeness t a1 = some r) (Gt : g10 pt t h) : m_X10_likeness h pt a1 = some r := by
  unfold t_X10_likeness at hm
  unfold m_X10_likeness
  refine p_bd (gi10_0 Gt) ?_
  refine p_bd (gi10_2 Gt) ?_
  exact l_X10_likeness_21 pt _ _ _ _ _ _ hm Gt 
def t_X9_hasRoomFor (t : g_S) (a1 : Int32) : Option Int32 :=
  let v1 := g_I t 1
  if (400 : Int32) < (v1 + a1) then
    some ((0 : Int32))
  else
    some ((1 : Int32))
set_option maxRecDepth 20000 in
theorem l_X9_hasRoomFor (h : q_H) (pt : Nat) (t : g_S) (a1 : Int32) {r : Int32} (hm : t_X9_hasRoomFor t a1 = some r) (Gt : g9 pt t h) : m_X9_hasRoomFor h pt a1 = some r := by
  unfold t_X9_hasRoomFor at hm
  unfold m_X9_hasRoomFor
  refine p_bd (gi9_1 Gt) ?_
  refine r_if _ _ hm (fun _ hm => ?_) (fun _ hm => ?_)
  · exact hm
  · exact hm
def t_X9_append_3  : Nat → g_S → Int32 → Int32 → Option g_S
  | 0, _, _, _ => none
  | n + 1, t, x1, x2 =>
    if x2 < 0 then
      some t
    else
      let v1 := g_I t 1
      if (400 : Int32) ≤ v1 then
        some t
      else
        let v3 := g_I t 1
        (u_si 400 t 0 v3 (vp_nar .byte (((x1 >>> (x2 &&& 31))).toInt8.toInt32))).bind fun t1 =>
        let v5 := g_I t1 1
        let t2 := g_si t1 1 (v5 + (1 : Int32))
        t_X9_append_3 n t2 x1 ((x2 + (-8 : Int32)))
set_option maxRecDepth 20000 in
theorem l_X9_append_3 (pt : Nat) {t' : g_S} : ∀ (n : Nat) (h : q_H) (t : g_S) (x1 : Int32) (x2 : Int32), t_X9_append_3 n t x1 x2 = some t' → g9 pt t h → q_E (m_X9_append_3 n h pt x1 x2) (fun x => g9 pt t' (x) ∧ ∀ a, ¬ (f9 pt a) → (x) a = h a) := by
  intro n
  induction n with
  | zero => intro h t x1 x2 hm Gt ; cases hm
  | succ n ih =>
    intro h t x1 x2 hm Gt 
    unfold t_X9_append_3 at hm
    unfold m_X9_append_3
    have FR : ∀ a, ¬ (f9 pt a) → h a = h a := fun _ _ => rfl
    refine e_if hm (fun _ hm => ?_) (fun _ hm => ?_)
    · obtain rfl := Option.some.inj hm
      exact ⟨_, rfl, Gt, FR⟩
    · refine e_bd (gi9_1 Gt) ?_
      refine e_if hm (fun _ hm => ?_) (fun _ hm => ?_)
      · obtain rfl := Option.some.inj hm
        exact ⟨_, rfl, Gt, FR⟩
      · refine e_bd (gn9_0 Gt) ?_
        refine e_bd (gi9_1 Gt) ?_
        obtain ⟨t1, e8, hm⟩ := q_b hm
        obtain ⟨h4, e9, Gt, F⟩ := as9_0 Gt e8
        refine e_bd e9 ?_
        have FR := fun a na => (F a (fun hb => na (hb))).trans (FR a na)
        refine e_bd (gi9_1 Gt) ?_
        refine e_pi (pi9_1 _ Gt) (fun h6 Gt F => ?_)
        have FR := fun a na => (F a (fun hb => na (hb))).trans (FR a na)
        obtain ⟨x9, e9, Gt, F⟩ := ih _ _ _ _ hm Gt 
        exact ⟨x9, e9, Gt, fun a na => (F a na).trans (FR a na)⟩
def t_X9_append (t : g_S) (a1 : Int32) : Option g_S :=
  t_X9_append_3 q_fu t a1 ((24 : Int32))
set_option maxRecDepth 20000 in
theorem l_X9_append (h : q_H) (pt : Nat) (t : g_S) (a1 : Int32) {t' : g_S} (hm : t_X9_append t a1 = some t') (Gt : g9 pt t h) : q_E (m_X9_append h pt a1) (fun x => g9 pt t' (x) ∧ ∀ a, ¬ (f9 pt a) → (x) a = h a) := by
  unfold t_X9_append at hm
  unfold m_X9_append
  have FR : ∀ a, ¬ (f9 pt a) → h a = h a := fun _ _ => rfl
  obtain ⟨x9, e9, Gt, F⟩ := l_X9_append_3 pt _ _ _ _ _ hm Gt 
  exact ⟨x9, e9, Gt, fun a na => (F a na).trans (FR a na)⟩
def t_X10_workedTogether_4  : Nat → g_S → Int32 → Int32 → Int32 → Option Int32
  | 0, _, _, _, _ => none
  | n + 1, t, x1, x2, x3 =>
    if x1 ≤ x3 then
      some x2
    else
      (t_ai 8 (g_A t 6) x3).bind fun v2 =>
      t_X10_workedTogether_4 n t x1 ((x2 + v2)) ((x3 + (1 : Int32)))
set_option maxRecDepth 20000 in
theorem l_X10_workedTogether_4 (pt : Nat) {r : Int32} : ∀ (n : Nat) (h : q_H) (t : g_S) (x1 : Int32) (x2 : Int32) (x3 : Int32), t_X10_workedTogether_4 n t x1 x2 x3 = some r → g10 pt t h → m_X10_workedTogether_4 n h pt x1 x2 x3 = some r := by
  intro n
  induction n with
  | zero => intro h t x1 x2 x3 hm Gt ; cases hm
  | succ n ih =>
    intro h t x1 x2 x3 hm Gt 
    unfold t_X10_workedTogether_4 at hm
    unfold m_X10_workedTogether_4
    refine r_if _ _ hm (fun _ hm => ?_) (fun _ hm => ?_)
    · exact hm
    · refine p_bd (gn10_6 Gt) ?_
      refine p_eq (ai10_6 Gt _) hm (fun v2 hm => ?_)
      exact ih _ _ _ _ _ hm Gt 
def t_X10_workedTogether (t : g_S) (a1 : Int32) : Option Int32 :=
  t_X10_workedTogether_4 q_fu t a1 ((0 : Int32)) ((0 : Int32))
set_option maxRecDepth 20000 in
theorem l_X10_workedTogether (h : q_H) (pt : Nat) (t : g_S) (a1 : Int32) {r : Int32} (hm : t_X10_workedTogether t a1 = some r) (Gt : g10 pt t h) : m_X10_workedTogether h pt a1 = some r := by
  unfold t_X10_workedTogether at hm
  unfold m_X10_workedTogether
  exact l_X10_workedTogether_4 pt _ _ _ _ _ _ hm Gt 
def t_X10_crossOver_63 (k13 : g_S → Int32 → Int32 → Int32 → Int32 → Int32 → Option g_S) (t : g_S) (x1 : Int32) (x2 : Int32) (x3 : Int32) (x4 : Int32) (x5 : Int32) : Option g_S :=
  k13 t x1 x2 x3 x4 ((x5 + (1 : Int32)))
set_option maxRecDepth 20000 in
theorem l_X10_crossOver_63 (pt : Nat) {t' : g_S} {k13 : g_S → Int32 → Int32 → Int32 → Int32 → Int32 → Option g_S} {gk13 : q_H → Nat → Int32 → Int32 → Int32 → Int32 → Int32 → Option q_H} (hk13 : ∀ (h : q_H) (t : g_S) (x1 : Int32) (x2 : Int32) (x3 : Int32) (x4 : Int32) (x5 : Int32), k13 t x1 x2 x3 x4 x5 = some t' → g10 pt t h → q_E (gk13 h pt x1 x2 x3 x4 x5) (fun x => g10 pt t' (x) ∧ ∀ a, ¬ (f10 pt a) → (x) a = h a)) : ∀ (h : q_H) (t : g_S) (x1 : Int32) (x2 : Int32) (x3 : Int32) (x4 : Int32) (x5 : Int32), t_X10_crossOver_63 k13 t x1 x2 x3 x4 x5 = some t' → g10 pt t h → q_E (m_X10_crossOver_63 gk13 h pt x1 x2 x3 x4 x5) (fun x => g10 pt t' (x) ∧ ∀ a, ¬ (f10 pt a) → (x) a = h a) := by
  intro h t x1 x2 x3 x4 x5 hm Gt 
  unfold t_X10_crossOver_63 at hm
  unfold m_X10_crossOver_63
  have FR : ∀ a, ¬ (f10 pt a) → h a = h a := fun _ _ => rfl
  obtain ⟨x9, e9, Gt, F⟩ := hk13 _ _ _ _ _ _ _ hm Gt 
  exact ⟨x9, e9, Gt, fun a na => (F a na).trans (FR a na)⟩
def t_X10_crossOver_13  : Nat → g_S → Int32 → Int32 → Int32 → Int32 → Int32 → Option g_S
  | 0, _, _, _, _, _, _ => none
  | n + 1, t, x1, x2, x3, x4, x5 =>
    if x2 ≤ x5 then
      (u_si 8 t 3 x1 (((1 : Int32) - x3))).bind fun t1 =>
      (u_si 8 t1 4 x1 x4).bind fun t2 =>
      some t2
    else
      (t_ai 8 (g_A t 3) x5).bind fun v8 =>
      if v8 = x3 then
        (t_ai 8 (g_A t 4) x5).bind fun v10 =>
        (t_ai 8 (g_A t 4) x1).bind fun v12 =>
        if v10 ≤ v12 then
          t_X10_crossOver_63 (t_X10_crossOver_13 n) t x1 x2 x3 x4 x5
        else
          (t_ai 8 (g_A t 4) x5).bind fun v14 =>
          (u_si 8 t 4 x5 ((v14 - (1 : Int32)))).bind fun t3 =>
          t_X10_crossOver_63 (t_X10_crossOver_13 n) t3 x1 x2 x3 x4 x5
      else
        t_X10_crossOver_63 (t_X10_crossOver_13 n) t x1 x2 x3 ((x4 + (1 : Int32))) x5
set_option maxRecDepth 20000 in
theorem l_X10_crossOver_13 (pt : Nat) {t' : g_S} : ∀ (n : Nat) (h : q_H) (t : g_S) (x1 : Int32) (x2 : Int32) (x3 : Int32) (x4 : Int32) (x5 : Int32), t_X10_crossOver_13 n t x1 x2 x3 x4 x5 = some t' → g10 pt t h → q_E (m_X10_crossOver_13 n h pt x1 x2 x3 x4 x5) (fun x => g10 pt t' (x) ∧ ∀ a, ¬ (f10 pt a) → (x) a = h a) := by
  intro n
  induction n with
  | zero => intro h t x1 x2 x3 x4 x5 hm Gt ; cases hm
  | succ n ih =>
    intro h t x1 x2 x3 x4 x5 hm Gt 
    unfold t_X10_crossOver_13 at hm
    unfold m_X10_crossOver_13
    have FR : ∀ a, ¬ (f10 pt a) → h a = h a := fun _ _ => rfl
    refine e_if hm (fun _ hm => ?_) (fun _ hm => ?_)
    · refine e_bd (gn10_3 Gt) ?_
      obtain ⟨t1, e8, hm⟩ := q_b hm
      obtain ⟨h4, e9, Gt, F⟩ := as10_3 Gt e8
      refine e_bd e9 ?_
      have FR := fun a na => (F a (fun hb => na (hb))).trans (FR a na)
      refine e_bd (gn10_4 Gt) ?_
      obtain ⟨t2, e8, hm⟩ := q_b hm
      obtain ⟨h6, e9, Gt, F⟩ := as10_4 Gt e8
      refine e_bd e9 ?_
      have FR := fun a na => (F a (fun hb => na (hb))).trans (FR a na)
      obtain rfl := Option.some.inj hm
      exact ⟨_, rfl, Gt, FR⟩
    · refine e_bd (gn10_3 Gt) ?_
      refine e_eq (ai10_3 Gt _) hm (fun v8 hm => ?_)
      refine e_if hm (fun _ hm => ?_) (fun _ hm => ?_)
      · refine e_bd (gn10_4 Gt) ?_
        refine e_eq (ai10_4 Gt _) hm (fun v10 hm => ?_)
        refine e_bd (gn10_4 Gt) ?_
        refine e_eq (ai10_4 Gt _) hm (fun v12 hm => ?_)
        refine e_if hm (fun _ hm => ?_) (fun _ hm => ?_)
        · obtain ⟨x9, e9, Gt, F⟩ := l_X10_crossOver_63 pt ih _ _ _ _ _ _ _ hm Gt 
          exact ⟨x9, e9, Gt, fun a na => (F a na).trans (FR a na)⟩
        · refine e_bd (gn10_4 Gt) ?_
          refine e_eq (ai10_4 Gt _) hm (fun v14 hm => ?_)
          obtain ⟨t3, e8, hm⟩ := q_b hm
          obtain ⟨h15, e9, Gt, F⟩ := as10_4 Gt e8
          refine e_bd e9 ?_
          have FR := fun a na => (F a (fun hb => na (hb))).trans (FR a na)
          obtain ⟨x9, e9, Gt, F⟩ := l_X10_crossOver_63 pt ih _ _ _ _ _ _ _ hm Gt 
          exact ⟨x9, e9, Gt, fun a na => (F a na).trans (FR a na)⟩
      · obtain ⟨x9, e9, Gt, F⟩ := l_X10_crossOver_63 pt ih _ _ _ _ _ _ _ hm Gt 
        exact ⟨x9, e9, Gt, fun a na => (F a na).trans (FR a na)⟩
def t_X10_crossOver (t : g_S) (a1 : Int32) (a2 : Int32) : Option g_S :=
  (t_ai 8 (g_A t 3) a1).bind fun v2 =>
  t_X10_crossOver_13 q_fu t a1 a2 v2 ((0 : Int32)) ((0 : Int32))
set_option maxRecDepth 20000 in
theorem l_X10_crossOver (h : q_H) (pt : Nat) (t : g_S) (a1 : Int32) (a2 : Int32) {t' : g_S} (hm : t_X10_crossOver t a1 a2 = some t') (Gt : g10 pt t h) : q_E (m_X10_crossOver h pt a1 a2) (fun x => g10 pt t' (x) ∧ ∀ a, ¬ (f10 pt a) → (x) a = h a) := by
  unfold t_X10_crossOver at hm
  unfold m_X10_crossOver
  have FR : ∀ a, ¬ (f10 pt a) → h a = h a := fun _ _ => rfl
  refine e_bd (gn10_3 Gt) ?_
  refine e_eq (ai10_3 Gt _) hm (fun v2 hm => ?_)
  obtain ⟨x9, e9, Gt, F⟩ := l_X10_crossOver_13 pt _ _ _ _ _ _ _ _ hm Gt 
  exact ⟨x9, e9, Gt, fun a na => (F a na).trans (FR a na)⟩
def t_X10_stepToFront_47 (k2 : g_S → Int32 → Int32 → Int32 → Option g_S) (t : g_S) (x1 : Int32) (x2 : Int32) (x3 : Int32) : Option g_S :=
  k2 t x1 x2 ((x3 + (1 : Int32)))
set_option maxRecDepth 20000 in
theorem l_X10_stepToFront_47 (pt : Nat) {t' : g_S} {k2 : g_S → Int32 → Int32 → Int32 → Option g_S} {gk2 : q_H → Nat → Int32 → Int32 → Int32 → Option q_H} (hk2 : ∀ (h : q_H) (t : g_S) (x1 : Int32) (x2 : Int32) (x3 : Int32), k2 t x1 x2 x3 = some t' → g10 pt t h → q_E (gk2 h pt x1 x2 x3) (fun x => g10 pt t' (x) ∧ ∀ a, ¬ (f10 pt a) → (x) a = h a)) : ∀ (h : q_H) (t : g_S) (x1 : Int32) (x2 : Int32) (x3 : Int32), t_X10_stepToFront_47 k2 t x1 x2 x3 = some t' → g10 pt t h → q_E (m_X10_stepToFront_47 gk2 h pt x1 x2 x3) (fun x => g10 pt t' (x) ∧ ∀ a, ¬ (f10 pt a) → (x) a = h a) := by
  intro h t x1 x2 x3 hm Gt 
  unfold t_X10_stepToFront_47 at hm
  unfold m_X10_stepToFront_47
  have FR : ∀ a, ¬ (f10 pt a) → h a = h a := fun _ _ => rfl
  obtain ⟨x9, e9, Gt, F⟩ := hk2 _ _ _ _ _ hm Gt 
  exact ⟨x9, e9, Gt, fun a na => (F a na).trans (FR a na)⟩
def t_X10_stepToFront_2  : Nat → g_S → Int32 → Int32 → Int32 → Option g_S
  | 0, _, _, _, _ => none
  | n + 1, t, x1, x2, x3 =>
    if x2 ≤ x3 then
      (u_si 8 t 4 x1 ((0 : Int32))).bind fun t1 =>
      some t1
    else
      (t_ai 8 (g_A t 3) x3).bind fun v4 =>
      (t_ai 8 (g_A t 3) x1).bind fun v6 =>
      if v4 = v6 then
        (t_ai 8 (g_A t 4) x3).bind fun v8 =>
        (t_ai 8 (g_A t 4) x1).bind fun v10 =>
        if v10 ≤ v8 then
          t_X10_stepToFront_47 (t_X10_stepToFront_2 n) t x1 x2 x3
        else
          (t_ai 8 (g_A t 4) x3).bind fun v12 =>
          (u_si 8 t 4 x3 ((v12 + (1 : Int32)))).bind fun t2 =>
          t_X10_stepToFront_47 (t_X10_stepToFront_2 n) t2 x1 x2 x3
      else
        t_X10_stepToFront_47 (t_X10_stepToFront_2 n) t x1 x2 x3
set_option maxRecDepth 20000 in
theorem l_X10_stepToFront_2 (pt : Nat) {t' : g_S} : ∀ (n : Nat) (h : q_H) (t : g_S) (x1 : Int32) (x2 : Int32) (x3 : Int32), t_X10_stepToFront_2 n t x1 x2 x3 = some t' → g10 pt t h → q_E (m_X10_stepToFront_2 n h pt x1 x2 x3) (fun x => g10 pt t' (x) ∧ ∀ a, ¬ (f10 pt a) → (x) a = h a) := by
  intro n
  induction n with
  | zero => intro h t x1 x2 x3 hm Gt ; cases hm
  | succ n ih =>
    intro h t x1 x2 x3 hm Gt 
    unfold t_X10_stepToFront_2 at hm
    unfold m_X10_stepToFront_2
    have FR : ∀ a, ¬ (f10 pt a) → h a = h a := fun _ _ => rfl
    refine e_if hm (fun _ hm => ?_) (fun _ hm => ?_)
    · refine e_bd (gn10_4 Gt) ?_
      obtain ⟨t1, e8, hm⟩ := q_b hm
      obtain ⟨h2, e9, Gt, F⟩ := as10_4 Gt e8
      refine e_bd e9 ?_
      have FR := fun a na => (F a (fun hb => na (hb))).trans (FR a na)
      obtain rfl := Option.some.inj hm
      exact ⟨_, rfl, Gt, FR⟩
    · refine e_bd (gn10_3 Gt) ?_
      refine e_eq (ai10_3 Gt _) hm (fun v4 hm => ?_)
      refine e_bd (gn10_3 Gt) ?_
      refine e_eq (ai10_3 Gt _) hm (fun v6 hm => ?_)
      refine e_if hm (fun _ hm => ?_) (fun _ hm => ?_)
      · refine e_bd (gn10_4 Gt) ?_
        refine e_eq (ai10_4 Gt _) hm (fun v8 hm => ?_)
        refine e_bd (gn10_4 Gt) ?_
        refine e_eq (ai10_4 Gt _) hm (fun v10 hm => ?_)
        refine e_if hm (fun _ hm => ?_) (fun _ hm => ?_)
        · obtain ⟨x9, e9, Gt, F⟩ := l_X10_stepToFront_47 pt ih _ _ _ _ _ hm Gt 
          exact ⟨x9, e9, Gt, fun a na => (F a na).trans (FR a na)⟩
        · refine e_bd (gn10_4 Gt) ?_
          refine e_eq (ai10_4 Gt _) hm (fun v12 hm => ?_)
          obtain ⟨t2, e8, hm⟩ := q_b hm
          obtain ⟨h13, e9, Gt, F⟩ := as10_4 Gt e8
          refine e_bd e9 ?_
          have FR := fun a na => (F a (fun hb => na (hb))).trans (FR a na)
          obtain ⟨x9, e9, Gt, F⟩ := l_X10_stepToFront_47 pt ih _ _ _ _ _ hm Gt 
          exact ⟨x9, e9, Gt, fun a na => (F a na).trans (FR a na)⟩
      · obtain ⟨x9, e9, Gt, F⟩ := l_X10_stepToFront_47 pt ih _ _ _ _ _ hm Gt 
        exact ⟨x9, e9, Gt, fun a na => (F a na).trans (FR a na)⟩
def t_X10_stepToFront (t : g_S) (a1 : Int32) (a2 : Int32) : Option g_S :=
  t_X10_stepToFront_2 q_fu t a1 a2 ((0 : Int32))
set_option maxRecDepth 20000 in
theorem l_X10_stepToFront (h : q_H) (pt : Nat) (t : g_S) (a1 : Int32) (a2 : Int32) {t' : g_S} (hm : t_X10_stepToFront t a1 a2 = some t') (Gt : g10 pt t h) : q_E (m_X10_stepToFront h pt a1 a2) (fun x => g10 pt t' (x) ∧ ∀ a, ¬ (f10 pt a) → (x) a = h a) := by
  unfold t_X10_stepToFront at hm
  unfold m_X10_stepToFront
  have FR : ∀ a, ¬ (f10 pt a) → h a = h a := fun _ _ => rfl
  obtain ⟨x9, e9, Gt, F⟩ := l_X10_stepToFront_2 pt _ _ _ _ _ _ hm Gt 
  exact ⟨x9, e9, Gt, fun a na => (F a na).trans (FR a na)⟩
def t_X10_penceOf_96 (k36 : g_S → Int32 → Int32 → Int32 → Int32 → Int32 → Int32 → Int32 → Int32 → Option Int32) (t : g_S) (x1 : Int32) (x2 : Int32) (x3 : Int32) (x4 : Int32) (x5 : Int32) (x6 : Int32) (x7 : Int32) (x8 : Int32) : Option Int32 :=
  k36 t x1 x2 x3 x4 x5 x6 x7 ((x8 + (1 : Int32)))
set_option maxRecDepth 20000 in
theorem l_X10_penceOf_96 (pt : Nat) {r : Int32} {k36 : g_S → Int32 → Int32 → Int32 → Int32 → Int32 → Int32 → Int32 → Int32 → Option Int32} {gk36 : q_H → Nat → Int32 → Int32 → Int32 → Int32 → Int32 → Int32 → Int32 → Int32 → Option Int32} (hk36 : ∀ (h : q_H) (t : g_S) (x1 : Int32) (x2 : Int32) (x3 : Int32) (x4 : Int32) (x5 : Int32) (x6 : Int32) (x7 : Int32) (x8 : Int32), k36 t x1 x2 x3 x4 x5 x6 x7 x8 = some r → g10 pt t h → gk36 h pt x1 x2 x3 x4 x5 x6 x7 x8 = some r) : ∀ (h : q_H) (t : g_S) (x1 : Int32) (x2 : Int32) (x3 : Int32) (x4 : Int32) (x5 : Int32) (x6 : Int32) (x7 : Int32) (x8 : Int32), t_X10_penceOf_96 k36 t x1 x2 x3 x4 x5 x6 x7 x8 = some r → g10 pt t h → m_X10_penceOf_96 gk36 h pt x1 x2 x3 x4 x5 x6 x7 x8 = some r := by
  intro h t x1 x2 x3 x4 x5 x6 x7 x8 hm Gt 
  unfold t_X10_penceOf_96 at hm
  unfold m_X10_penceOf_96
  exact hk36 _ _ _ _ _ _ _ _ _ _ hm Gt 
def t_X10_penceOf_93 (k36 : g_S → Int32 → Int32 → Int32 → Int32 → Int32 → Int32 → Int32 → Int32 → Option Int32) (t : g_S) (x1 : Int32) (x2 : Int32) (x3 : Int32) (x4 : Int32) (x5 : Int32) (x6 : Int32) (x7 : Int32) (x8 : Int32) : Option Int32 :=
  t_X10_penceOf_96 k36 t x1 x2 x3 x4 x5 ((x6 + (1 : Int32))) x7 x8
set_option maxRecDepth 20000 in
theorem l_X10_penceOf_93 (pt : Nat) {r : Int32} {k36 : g_S → Int32 → Int32 → Int32 → Int32 → Int32 → Int32 → Int32 → Int32 → Option Int32} {gk36 : q_H → Nat → Int32 → Int32 → Int32 → Int32 → Int32 → Int32 → Int32 → Int32 → Option Int32} (hk36 : ∀ (h : q_H) (t : g_S) (x1 : Int32) (x2 : Int32) (x3 : Int32) (x4 : Int32) (x5 : Int32) (x6 : Int32) (x7 : Int32) (x8 : Int32), k36 t x1 x2 x3 x4 x5 x6 x7 x8 = some r → g10 pt t h → gk36 h pt x1 x2 x3 x4 x5 x6 x7 x8 = some r) : ∀ (h : q_H) (t : g_S) (x1 : Int32) (x2 : Int32) (x3 : Int32) (x4 : Int32) (x5 : Int32) (x6 : Int32) (x7 : Int32) (x8 : Int32), t_X10_penceOf_93 k36 t x1 x2 x3 x4 x5 x6 x7 x8 = some r → g10 pt t h → m_X10_penceOf_93 gk36 h pt x1 x2 x3 x4 x5 x6 x7 x8 = some r := by
  intro h t x1 x2 x3 x4 x5 x6 x7 x8 hm Gt 
  unfold t_X10_penceOf_93 at hm
  unfold m_X10_penceOf_93
  exact l_X10_penceOf_96 pt hk36 _ _ _ _ _ _ _ _ _ _ hm Gt 
def t_X10_penceOf_125 (t : g_S) (s0 : Int32) (s1 : Int32) : Option Int32 :=
  some ((s1 + s0))
set_option maxRecDepth 20000 in
theorem l_X10_penceOf_125 (pt : Nat) {r : Int32} : ∀ (h : q_H) (t : g_S) (s0 : Int32) (s1 : Int32), t_X10_penceOf_125 t s0 s1 = some r → g10 pt t h → m_X10_penceOf_125 h s0 s1 = some r := by
  intro h t s0 s1 hm Gt 
  unfold t_X10_penceOf_125 at hm
  unfold m_X10_penceOf_125
  exact hm
def t_X10_penceOf_36  : Nat → g_S → Int32 → Int32 → Int32 → Int32 → Int32 → Int32 → Int32 → Int32 → Option Int32
  | 0, _, _, _, _, _, _, _, _, _ => none
  | n + 1, t, x1, x2, x3, x4, x5, x6, x7, x8 =>
    if x3 ≤ x8 then
      (t_ai 8 (g_A t 6) x2).bind fun v6 =>
      if x4 = 0 then none else
      if x5 ≤ x6 then
        t_X10_penceOf_125 t ((0 : Int32)) (((x1 * v6) / x4))
      else
        t_X10_penceOf_125 t ((1 : Int32)) (((x1 * v6) / x4))
    else
      (t_ai 8 (g_A t 6) x8).bind fun v8 =>
      if x4 = 0 then none else
      (t_ai 8 (g_A t 6) x8).bind fun v10 =>
      if x4 = 0 then none else
      if x7 < (q_rmi ((x1 * v8)) x4) then
        t_X10_penceOf_93 (t_X10_penceOf_36 n) t x1 x2 x3 x4 ((x5 - ((x1 * v10) / x4))) x6 x7 x8
      else
        if (q_rmi ((x1 * v8)) x4) = x7 then
          if x2 ≤ x8 then
            t_X10_penceOf_96 (t_X10_penceOf_36 n) t x1 x2 x3 x4 ((x5 - ((x1 * v10) / x4))) x6 x7 x8
          else
            t_X10_penceOf_93 (t_X10_penceOf_36 n) t x1 x2 x3 x4 ((x5 - ((x1 * v10) / x4))) x6 x7 x8
        else
          t_X10_penceOf_96 (t_X10_penceOf_36 n) t x1 x2 x3 x4 ((x5 - ((x1 * v10) / x4))) x6 x7 x8
set_option maxRecDepth 20000 in
theorem l_X10_penceOf_36 (pt : Nat) {r : Int32} : ∀ (n : Nat) (h : q_H) (t : g_S) (x1 : Int32) (x2 : Int32) (x3 : Int32) (x4 : Int32) (x5 : Int32) (x6 : Int32) (x7 : Int32) (x8 : Int32), t_X10_penceOf_36 n t x1 x2 x3 x4 x5 x6 x7 x8 = some r → g10 pt t h → m_X10_penceOf_36 n h pt x1 x2 x3 x4 x5 x6 x7 x8 = some r := by
  intro n
  induction n with
  | zero => intro h t x1 x2 x3 x4 x5 x6 x7 x8 hm Gt ; cases hm
  | succ n ih =>
    intro h t x1 x2 x3 x4 x5 x6 x7 x8 hm Gt 
    unfold t_X10_penceOf_36 at hm
    unfold m_X10_penceOf_36
    refine r_if _ _ hm (fun _ hm => ?_) (fun _ hm => ?_)
    · refine p_bd (gn10_6 Gt) ?_
      refine p_eq (ai10_6 Gt _) hm (fun v6 hm => ?_)
      refine r_if _ _ hm (fun _ hm => by cases hm) (fun _ hm => ?_)
      refine r_if _ _ hm (fun _ hm => ?_) (fun _ hm => ?_)
      · exact l_X10_penceOf_125 pt _ _ _ _ hm Gt 
      · exact l_X10_penceOf_125 pt _ _ _ _ hm Gt 
    · refine p_bd (gn10_6 Gt) ?_
      refine p_eq (ai10_6 Gt _) hm (fun v8 hm => ?_)
      refine r_if _ _ hm (fun _ hm => by cases hm) (fun _ hm => ?_)
      refine p_bd (gn10_6 Gt) ?_
      refine p_eq (ai10_6 Gt _) hm (fun v10 hm => ?_)
      refine r_if _ _ hm (fun _ hm => by cases hm) (fun _ hm => ?_)
      refine r_if _ _ hm (fun _ hm => ?_) (fun _ hm => ?_)
      · exact l_X10_penceOf_93 pt ih _ _ _ _ _ _ _ _ _ _ hm Gt 
      · refine r_if _ _ hm (fun _ hm => ?_) (fun _ hm => ?_)
        · refine r_if _ _ hm (fun _ hm => ?_) (fun _ hm => ?_)
          · exact l_X10_penceOf_96 pt ih _ _ _ _ _ _ _ _ _ _ hm Gt 
          · exact l_X10_penceOf_93 pt ih _ _ _ _ _ _ _ _ _ _ hm Gt 
        · exact l_X10_penceOf_96 pt ih _ _ _ _ _ _ _ _ _ _ hm Gt 
def t_X10_penceOf (t : g_S) (a1 : Int32) (a2 : Int32) (a3 : Int32) : Option Int32 :=
  (t_X10_workedTogether t a3).bind fun r1 =>
  if r1 = 0 then
    some ((0 : Int32))
  else
    (t_ai 8 (g_A t 6) a2).bind fun v4 =>
    if r1 = 0 then none else
    t_X10_penceOf_36 q_fu t a1 a2 a3 r1 a1 ((0 : Int32)) ((q_rmi ((a1 * v4)) r1)) ((0 : Int32))
set_option maxRecDepth 20000 in
theorem l_X10_penceOf (h : q_H) (pt : Nat) (t : g_S) (a1 : Int32) (a2 : Int32) (a3 : Int32) {r : Int32} (hm : t_X10_penceOf t a1 a2 a3 = some r) (Gt : g10 pt t h) : m_X10_penceOf h pt a1 a2 a3 = some r := by
  unfold t_X10_penceOf at hm
  unfold m_X10_penceOf
  obtain ⟨r1, e8, hm⟩ := q_b hm
  refine p_bd ((ca10 Gt).trans (l_X10_workedTogether _ _ _ _ e8 Gt  )) ?_
  refine r_if _ _ hm (fun _ hm => ?_) (fun _ hm => ?_)
  · exact hm
  · refine p_bd (gn10_6 Gt) ?_
    refine p_eq (ai10_6 Gt _) hm (fun v4 hm => ?_)
    refine r_if _ _ hm (fun _ hm => by cases hm) (fun _ hm => ?_)
    exact l_X10_penceOf_36 pt _ _ _ _ _ _ _ _ _ _ _ hm Gt 
def t_X4_rowsWithAhead_38 (o : g_S) (x1 : Int32) (x2 : Int32) (s0 : Int32) : Option Int32 :=
  if s0 = 0 then
    some ((0 : Int32))
  else
    (q_ro x1).bind fun v2 =>
    (q_ro x2).bind fun v3 =>
    some ((v2 * v3))
set_option maxRecDepth 20000 in
theorem l_X4_rowsWithAhead_38 (po : Nat) {r : Int32} : ∀ (h : q_H) (o : g_S) (x1 : Int32) (x2 : Int32) (s0 : Int32), t_X4_rowsWithAhead_38 o x1 x2 s0 = some r → g4 po o h → m_X4_rowsWithAhead_38 h x1 x2 s0 = some r := by
  intro h o x1 x2 s0 hm Go 
  unfold t_X4_rowsWithAhead_38 at hm
  unfold m_X4_rowsWithAhead_38
  refine r_if _ _ hm (fun _ hm => ?_) (fun _ hm => ?_)
  · exact hm
  · refine r_bd hm (fun v2 hm => ?_)
    refine r_bd hm (fun v3 hm => ?_)
    exact hm
def t_X4_rowsWithAhead_37 (o : g_S) (x1 : Int32) (x2 : Int32) : Option Int32 :=
  t_X4_rowsWithAhead_38 o x1 x2 ((0 : Int32))
set_option maxRecDepth 20000 in
theorem l_X4_rowsWithAhead_37 (po : Nat) {r : Int32} : ∀ (h : q_H) (o : g_S) (x1 : Int32) (x2 : Int32), t_X4_rowsWithAhead_37 o x1 x2 = some r → g4 po o h → m_X4_rowsWithAhead_37 h x1 x2 = some r := by
  intro h o x1 x2 hm Go 
  unfold t_X4_rowsWithAhead_37 at hm
  unfold m_X4_rowsWithAhead_37
  exact l_X4_rowsWithAhead_38 po _ _ _ _ _ hm Go 
def t_X4_rowsWithAhead (o : g_S) (a1 : Int32) : Option Int32 :=
  let v1 := g_I o 3
  if a1 < 0 then
    t_X4_rowsWithAhead_37 o a1 (((v1 - (1 : Int32)) - a1))
  else
    if (8 : Int32) ≤ a1 then
      t_X4_rowsWithAhead_37 o a1 (((v1 - (1 : Int32)) - a1))
    else
      if ((v1 - (1 : Int32)) - a1) < 0 then
        t_X4_rowsWithAhead_37 o a1 (((v1 - (1 : Int32)) - a1))
      else
        if (8 : Int32) ≤ ((v1 - (1 : Int32)) - a1) then
          t_X4_rowsWithAhead_37 o a1 (((v1 - (1 : Int32)) - a1))
        else
          t_X4_rowsWithAhead_38 o a1 (((v1 - (1 : Int32)) - a1)) ((1 : Int32))
set_option maxRecDepth 20000 in
theorem l_X4_rowsWithAhead (h : q_H) (po : Nat) (o : g_S) (a1 : Int32) {r : Int32} (hm : t_X4_rowsWithAhead o a1 = some r) (Go : g4 po o h) : m_X4_rowsWithAhead h po a1 = some r := by
  unfold t_X4_rowsWithAhead at hm
  unfold m_X4_rowsWithAhead
  refine p_bd (gi4_3 Go) ?_
  refine r_if _ _ hm (fun _ hm => ?_) (fun _ hm => ?_)
  · exact l_X4_rowsWithAhead_37 po _ _ _ _ hm Go 
  · refine r_if _ _ hm (fun _ hm => ?_) (fun _ hm => ?_)
    · exact l_X4_rowsWithAhead_37 po _ _ _ _ hm Go 
    · refine r_if _ _ hm (fun _ hm => ?_) (fun _ hm => ?_)
      · exact l_X4_rowsWithAhead_37 po _ _ _ _ hm Go 
      · refine r_if _ _ hm (fun _ hm => ?_) (fun _ hm => ?_)
        · exact l_X4_rowsWithAhead_37 po _ _ _ _ hm Go 
        · exact l_X4_rowsWithAhead_38 po _ _ _ _ _ hm Go 
def t_X4_tipsBy_68 (k10 : g_S → Int32 → Int32 → Int32 → Int32 → Option Int32) (o : g_S) (x2 : Int32) (x3 : Int32) (x4 : Int32) (x5 : Int32) : Option Int32 :=
  k10 o x2 x3 x4 ((x5 + (1 : Int32)))
set_option maxRecDepth 20000 in
theorem l_X4_tipsBy_68 (po : Nat) {r : Int32} {k10 : g_S → Int32 → Int32 → Int32 → Int32 → Option Int32} {gk10 : q_H → Nat → Int32 → Int32 → Int32 → Int32 → Option Int32} (hk10 : ∀ (h : q_H) (o : g_S) (x2 : Int32) (x3 : Int32) (x4 : Int32) (x5 : Int32), k10 o x2 x3 x4 x5 = some r → g4 po o h → gk10 h po x2 x3 x4 x5 = some r) : ∀ (h : q_H) (o : g_S) (x2 : Int32) (x3 : Int32) (x4 : Int32) (x5 : Int32), t_X4_tipsBy_68 k10 o x2 x3 x4 x5 = some r → g4 po o h → m_X4_tipsBy_68 gk10 h po x2 x3 x4 x5 = some r := by
  intro h o x2 x3 x4 x5 hm Go 
  unfold t_X4_tipsBy_68 at hm
  unfold m_X4_tipsBy_68
  exact hk10 _ _ _ _ _ _ hm Go 
def t_X4_tipsBy_65 (k10 : g_S → Int32 → Int32 → Int32 → Int32 → Option Int32) (o : g_S) (x2 : Int32) (x3 : Int32) (x5 : Int32) (s0 : Int32) (s1 : Int32) : Option Int32 :=
  t_X4_tipsBy_68 k10 o x2 x3 ((s1 + s0)) x5
set_option maxRecDepth 20000 in
theorem l_X4_tipsBy_65 (po : Nat) {r : Int32} {k10 : g_S → Int32 → Int32 → Int32 → Int32 → Option Int32} {gk10 : q_H → Nat → Int32 → Int32 → Int32 → Int32 → Option Int32} (hk10 : ∀ (h : q_H) (o : g_S) (x2 : Int32) (x3 : Int32) (x4 : Int32) (x5 : Int32), k10 o x2 x3 x4 x5 = some r → g4 po o h → gk10 h po x2 x3 x4 x5 = some r) : ∀ (h : q_H) (o : g_S) (x2 : Int32) (x3 : Int32) (x5 : Int32) (s0 : Int32) (s1 : Int32), t_X4_tipsBy_65 k10 o x2 x3 x5 s0 s1 = some r → g4 po o h → m_X4_tipsBy_65 gk10 h po x2 x3 x5 s0 s1 = some r := by
  intro h o x2 x3 x5 s0 s1 hm Go 
  unfold t_X4_tipsBy_65 at hm
  unfold m_X4_tipsBy_65
  exact l_X4_tipsBy_68 po hk10 _ _ _ _ _ _ hm Go 
def t_X4_tipsBy_10  : Nat → g_S → Int32 → Int32 → Int32 → Int32 → Option Int32
  | 0, _, _, _, _, _ => none
  | n + 1, o, x2, x3, x4, x5 =>
    (t_X4_everyone o).bind fun r1 =>
    if r1 < x5 then
      some x4
    else
      if (x5 &&& x3) = 0 then
        (t_X4_outweighs o x5).bind fun r3 =>
        if r3 = 0 then
          (t_X4_outweighs o ((x5 ||| x3))).bind fun r5 =>
          if r5 = 0 then
            t_X4_tipsBy_68 (t_X4_tipsBy_10 n) o x2 x3 x4 x5
          else
            if x2 = 0 then
              t_X4_tipsBy_65 (t_X4_tipsBy_10 n) o x2 x3 x5 ((1 : Int32)) x4
            else
              (m_J6_bitCount_0f7a4 x5).bind fun r7 =>
              (t_X4_rowsWithAhead o r7).bind fun r9 =>
              t_X4_tipsBy_65 (t_X4_tipsBy_10 n) o x2 x3 x5 r9 x4
        else
          t_X4_tipsBy_68 (t_X4_tipsBy_10 n) o x2 x3 x4 x5
      else
        t_X4_tipsBy_68 (t_X4_tipsBy_10 n) o x2 x3 x4 x5
set_option maxRecDepth 20000 in
theorem l_X4_tipsBy_10 (po : Nat) {r : Int32} : ∀ (n : Nat) (h : q_H) (o : g_S) (x2 : Int32) (x3 : Int32) (x4 : Int32) (x5 : Int32), t_X4_tipsBy_10 n o x2 x3 x4 x5 = some r → g4 po o h → m_X4_tipsBy_10 n h po x2 x3 x4 x5 = some r := by
  intro n
  induction n with
  | zero => intro h o x2 x3 x4 x5 hm Go ; cases hm
  | succ n ih =>
    intro h o x2 x3 x4 x5 hm Go 
    unfold t_X4_tipsBy_10 at hm
    unfold m_X4_tipsBy_10
    obtain ⟨r1, e8, hm⟩ := q_b hm
    refine p_bd ((ca4 Go).trans (l_X4_everyone _ _ _ e8 Go  )) ?_
    refine r_if _ _ hm (fun _ hm => ?_) (fun _ hm => ?_)
    · exact hm
    · refine r_if _ _ hm (fun _ hm => ?_) (fun _ hm => ?_)
      · obtain ⟨r3, e8, hm⟩ := q_b hm
        refine p_bd ((ca4 Go).trans (l_X4_outweighs _ _ _ _ e8 Go  )) ?_
        refine r_if _ _ hm (fun _ hm => ?_) (fun _ hm => ?_)
        · obtain ⟨r5, e8, hm⟩ := q_b hm
          refine p_bd ((ca4 Go).trans (l_X4_outweighs _ _ _ _ e8 Go  )) ?_
          refine r_if _ _ hm (fun _ hm => ?_) (fun _ hm => ?_)
          · exact l_X4_tipsBy_68 po ih _ _ _ _ _ _ hm Go 
          · refine r_if _ _ hm (fun _ hm => ?_) (fun _ hm => ?_)
            · exact l_X4_tipsBy_65 po ih _ _ _ _ _ _ _ hm Go 
            · refine r_bd hm (fun r7 hm => ?_)
              obtain ⟨r9, e8, hm⟩ := q_b hm
              refine p_bd ((ca4 Go).trans (l_X4_rowsWithAhead _ _ _ _ e8 Go  )) ?_
              exact l_X4_tipsBy_65 po ih _ _ _ _ _ _ _ hm Go 
        · exact l_X4_tipsBy_68 po ih _ _ _ _ _ _ hm Go 
      · exact l_X4_tipsBy_68 po ih _ _ _ _ _ _ hm Go 
def t_X4_tipsBy (o : g_S) (a1 : Int32) (a2 : Int32) : Option Int32 :=
  t_X4_tipsBy_10 q_fu o a2 (((1 : Int32) <<< (a1 &&& 31))) ((0 : Int32)) ((0 : Int32))
set_option maxRecDepth 20000 in
theorem l_X4_tipsBy (h : q_H) (po : Nat) (o : g_S) (a1 : Int32) (a2 : Int32) {r : Int32} (hm : t_X4_tipsBy o a1 a2 = some r) (Go : g4 po o h) : m_X4_tipsBy h po a1 a2 = some r := by
  unfold t_X4_tipsBy at hm
  unfold m_X4_tipsBy
  exact l_X4_tipsBy_10 po _ _ _ _ _ _ _ hm Go 
