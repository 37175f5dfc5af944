def t_X0_pullers (l o : g_S) : Option Int32 :=
  let v1 := g_P l 0
  if v1 = none then
    some ((0 : Int32))
  else
    let v3 := g_I o 3
    some v3
set_option maxRecDepth 20000 in
theorem l_X0_pullers (h : q_H) (pl po : Nat) (l o : g_S) {r : Int32} (hm : t_X0_pullers l o = some r) (Gl : g0 pl l h) (Go : g4 po o h) (Eo : g_P l 0 = some po) (Dlo : ∀ a, f0 pl a → f4 po a → False) : m_X0_pullers h pl = some r := by
  unfold t_X0_pullers at hm
  unfold m_X0_pullers
  refine p_bd (go0_0 Gl) ?_
  refine r_if _ _ hm (fun _ hm => ?_) (fun _ hm => ?_)
  · exact hm
  · refine p_bd (gp0_0 Gl Eo) ?_
    refine p_bd (gi4_3 Go) ?_
    exact hm
def t_X0_has (l o : g_S) (a1 : Int32) : Option Int32 :=
  if a1 < 0 then
    some ((0 : Int32))
  else
    (t_X0_pullers l o).bind fun r1 =>
    if r1 ≤ a1 then
      some ((0 : Int32))
    else
      some ((1 : Int32))
set_option maxRecDepth 20000 in
theorem l_X0_has (h : q_H) (pl po : Nat) (l o : g_S) (a1 : Int32) {r : Int32} (hm : t_X0_has l o a1 = some r) (Gl : g0 pl l h) (Go : g4 po o h) (Eo : g_P l 0 = some po) (Dlo : ∀ a, f0 pl a → f4 po a → False) : m_X0_has h pl a1 = some r := by
  unfold t_X0_has at hm
  unfold m_X0_has
  refine r_if _ _ hm (fun _ hm => ?_) (fun _ hm => ?_)
  · exact hm
  · obtain ⟨r1, e8, hm⟩ := q_b hm
    refine p_bd ((ca0 Gl).trans (l_X0_pullers _ _ _ _ _ e8 Gl Go Eo Dlo)) ?_
    refine r_if _ _ hm (fun _ hm => ?_) (fun _ hm => ?_)
    · exact hm
    · exact hm
def t_X0_addNote (l : g_S) (a1 : Int32) (a2 : Int32) : Option g_S :=
  let v1 := g_I l 4
  if (10 : Int32) ≤ v1 then
    some l
  else
    let v3 := g_I l 4
    (u_si 10 l 5 v3 a1).bind fun l1 =>
    let v6 := g_I l1 4
    (u_si 10 l1 6 v6 a2).bind fun l2 =>
    let v8 := g_I l2 4
    let l3 := g_si l2 4 (v8 + (1 : Int32))
    some l3
set_option maxRecDepth 20000 in
theorem l_X0_addNote (h : q_H) (pl : Nat) (l : g_S) (a1 : Int32) (a2 : Int32) {l' : g_S} (hm : t_X0_addNote l a1 a2 = some l') (Gl : g0 pl l h) : q_E (m_X0_addNote h pl a1 a2) (fun x => g0 pl l' (x) ∧ g_P l' = g_P l ∧ ∀ a, ¬ (f0 pl a) → (x) a = h a) := by
  unfold t_X0_addNote at hm
  unfold m_X0_addNote
  have FR : ∀ a, ¬ (f0 pl a) → h a = h a := fun _ _ => rfl
  have Ql : g_P l = g_P l := rfl
  refine e_bd (gi0_4 Gl) ?_
  refine e_if hm (fun _ hm => ?_) (fun _ hm => ?_)
  · obtain rfl := Option.some.inj hm
    exact ⟨_, rfl, Gl, Ql, FR⟩
  · refine e_bd (gn0_5 Gl) ?_
    refine e_bd (gi0_4 Gl) ?_
    obtain ⟨l1, e8, hm⟩ := q_b hm
    obtain ⟨h4, e9, Gl, F⟩ := as0_5 Gl e8
    have Ql := (u_si_P e8).trans Ql
    refine e_bd e9 ?_
    have FR := fun a na => (F a (fun hb => na (hb))).trans (FR a na)
    refine e_bd (gn0_6 Gl) ?_
    refine e_bd (gi0_4 Gl) ?_
    obtain ⟨l2, e8, hm⟩ := q_b hm
    obtain ⟨h7, e9, Gl, F⟩ := as0_6 Gl e8
    have Ql := (u_si_P e8).trans Ql
    refine e_bd e9 ?_
    have FR := fun a na => (F a (fun hb => na (hb))).trans (FR a na)
    refine e_bd (gi0_4 Gl) ?_
    refine e_pi (pi0_4 _ Gl) (fun h9 Gl F => ?_)
    have FR := fun a na => (F a (fun hb => na (hb))).trans (FR a na)
    obtain rfl := Option.some.inj hm
    exact ⟨_, rfl, Gl, Ql, FR⟩
def t_X0_lastNoted_4  : Nat → g_S → Int32 → Int32 → Option Int32
  | 0, _, _, _ => none
  | n + 1, l, x1, x2 =>
    let v1 := g_I l 4
    if v1 ≤ x2 then
      some x1
    else
      (t_ai 10 (g_A l 5) x2).bind fun v3 =>
      t_X0_lastNoted_4 n l ((if x1 < v3 then v3 else x1)) ((x2 + (1 : Int32)))
set_option maxRecDepth 20000 in
theorem l_X0_lastNoted_4 (pl : Nat) {r : Int32} : ∀ (n : Nat) (h : q_H) (l : g_S) (x1 : Int32) (x2 : Int32), t_X0_lastNoted_4 n l x1 x2 = some r → g0 pl l h → m_X0_lastNoted_4 n h pl x1 x2 = some r := by
  intro n
  induction n with
  | zero => intro h l x1 x2 hm Gl ; cases hm
  | succ n ih =>
    intro h l x1 x2 hm Gl 
    unfold t_X0_lastNoted_4 at hm
    unfold m_X0_lastNoted_4
    refine p_bd (gi0_4 Gl) ?_
    refine r_if _ _ hm (fun _ hm => ?_) (fun _ hm => ?_)
    · exact hm
    · refine p_bd (gn0_5 Gl) ?_
      refine p_eq (ai0_5 Gl _) hm (fun v3 hm => ?_)
      exact ih _ _ _ _ hm Gl 
def t_X0_lastNoted (l : g_S) : Option Int32 :=
  t_X0_lastNoted_4 q_fu l ((-1 : Int32)) ((0 : Int32))
set_option maxRecDepth 20000 in
theorem l_X0_lastNoted (h : q_H) (pl : Nat) (l : g_S) {r : Int32} (hm : t_X0_lastNoted l = some r) (Gl : g0 pl l h) : m_X0_lastNoted h pl = some r := by
  unfold t_X0_lastNoted at hm
  unfold m_X0_lastNoted
  exact l_X0_lastNoted_4 pl _ _ _ _ _ hm Gl 
def t_X0_notesAllow_32 (k2 : g_S → Int32 → Int32 → Int32 → Option Int32) (l : g_S) (x1 : Int32) (x2 : Int32) (x3 : Int32) : Option Int32 :=
  k2 l x1 x2 ((x3 + (1 : Int32)))
set_option maxRecDepth 20000 in
theorem l_X0_notesAllow_32 (pl : Nat) {r : Int32} {k2 : g_S → Int32 → Int32 → Int32 → Option Int32} {gk2 : q_H → Nat → Int32 → Int32 → Int32 → Option Int32} (hk2 : ∀ (h : q_H) (l : g_S) (x1 : Int32) (x2 : Int32) (x3 : Int32), k2 l x1 x2 x3 = some r → g0 pl l h → gk2 h pl x1 x2 x3 = some r) : ∀ (h : q_H) (l : g_S) (x1 : Int32) (x2 : Int32) (x3 : Int32), t_X0_notesAllow_32 k2 l x1 x2 x3 = some r → g0 pl l h → m_X0_notesAllow_32 gk2 h pl x1 x2 x3 = some r := by
  intro h l x1 x2 x3 hm Gl 
  unfold t_X0_notesAllow_32 at hm
  unfold m_X0_notesAllow_32
  exact hk2 _ _ _ _ _ hm Gl 
def t_X0_notesAllow_2  : Nat → g_S → Int32 → Int32 → Int32 → Option Int32
  | 0, _, _, _, _ => none
  | n + 1, l, x1, x2, x3 =>
    let v1 := g_I l 4
    if v1 ≤ x3 then
      some ((1 : Int32))
    else
      (t_ai 10 (g_A l 5) x3).bind fun v3 =>
      if v3 = x1 then
        (t_ai 10 (g_A l 6) x3).bind fun v5 =>
        if v5 = x2 then
          t_X0_notesAllow_32 (t_X0_notesAllow_2 n) l x1 x2 x3
        else
          some ((0 : Int32))
      else
        t_X0_notesAllow_32 (t_X0_notesAllow_2 n) l x1 x2 x3
set_option maxRecDepth 20000 in
theorem l_X0_notesAllow_2 (pl : Nat) {r : Int32} : ∀ (n : Nat) (h : q_H) (l : g_S) (x1 : Int32) (x2 : Int32) (x3 : Int32), t_X0_notesAllow_2 n l x1 x2 x3 = some r → g0 pl l h → m_X0_notesAllow_2 n h pl x1 x2 x3 = some r := by
  intro n
  induction n with
  | zero => intro h l x1 x2 x3 hm Gl ; cases hm
  | succ n ih =>
    intro h l x1 x2 x3 hm Gl 
    unfold t_X0_notesAllow_2 at hm
    unfold m_X0_notesAllow_2
    refine p_bd (gi0_4 Gl) ?_
    refine r_if _ _ hm (fun _ hm => ?_) (fun _ hm => ?_)
    · exact hm
    · refine p_bd (gn0_5 Gl) ?_
      refine p_eq (ai0_5 Gl _) hm (fun v3 hm => ?_)
      refine r_if _ _ hm (fun _ hm => ?_) (fun _ hm => ?_)
      · refine p_bd (gn0_6 Gl) ?_
        refine p_eq (ai0_6 Gl _) hm (fun v5 hm => ?_)
        refine r_if _ _ hm (fun _ hm => ?_) (fun _ hm => ?_)
        · exact l_X0_notesAllow_32 pl ih _ _ _ _ _ hm Gl 
        · exact hm
      · exact l_X0_notesAllow_32 pl ih _ _ _ _ _ hm Gl 
def t_X0_notesAllow (l : g_S) (a1 : Int32) (a2 : Int32) : Option Int32 :=
  t_X0_notesAllow_2 q_fu l a1 a2 ((0 : Int32))
set_option maxRecDepth 20000 in
theorem l_X0_notesAllow (h : q_H) (pl : Nat) (l : g_S) (a1 : Int32) (a2 : Int32) {r : Int32} (hm : t_X0_notesAllow l a1 a2 = some r) (Gl : g0 pl l h) : m_X0_notesAllow h pl a1 a2 = some r := by
  unfold t_X0_notesAllow at hm
  unfold m_X0_notesAllow
  exact l_X0_notesAllow_2 pl _ _ _ _ _ _ hm Gl 
def t_X11_feed (m d : g_S) (a1 : Int32) (a2 : Int32) (a3 : Int32) (a4 : Int32) (a5 : Int32) : Option (Int32 × g_S) :=
  (t_X9_hasRoomFor d ((20 : Int32))).bind fun r2 =>
  if r2 = 0 then
    some ((-1 : Int32), d)
  else
    (t_X9_append d a1).bind fun d1 =>
    (t_X9_append d1 a2).bind fun d2 =>
    (t_X9_append d2 a3).bind fun d3 =>
    (t_X9_append d3 a4).bind fun d4 =>
    (t_X9_append d4 a5).bind fun d5 =>
    let v20 := g_I d5 1
    some (v20, d5)
set_option maxRecDepth 20000 in
theorem l_X11_feed (h : q_H) (pm pd : Nat) (m d : g_S) (a1 : Int32) (a2 : Int32) (a3 : Int32) (a4 : Int32) (a5 : Int32) {r : Int32} {d' : g_S} (hm : t_X11_feed m d a1 a2 a3 a4 a5 = some (r, d')) (Gm : g11 pm m h) (Gd : g9 pd d h) (Ed : g_P m 0 = some pd) (Dmd : ∀ a, f11 pm a → f9 pd a → False) : q_E (m_X11_feed h pm a1 a2 a3 a4 a5) (fun x => x.1 = r ∧ g9 pd d' (x.2) ∧ ∀ a, ¬ (f9 pd a) → (x.2) a = h a) := by
  unfold t_X11_feed at hm
  unfold m_X11_feed
  have FR : ∀ a, ¬ (f9 pd a) → h a = h a := fun _ _ => rfl
  have Qm : g_P m = g_P m := rfl
  refine e_bd (gp11_0 Gm ((congrFun Qm 0).trans Ed)) ?_
  obtain ⟨r2, e8, hm⟩ := q_b hm
  refine e_bd ((ca9 Gd).trans (l_X9_hasRoomFor _ _ _ _ e8 Gd  )) ?_
  refine e_if hm (fun _ hm => ?_) (fun _ hm => ?_)
  · have hq0 := Option.some.inj hm
    clear hm
    obtain ⟨rfl, rfl⟩ := Prod.mk.inj hq0
    exact ⟨_, rfl, rfl, Gd, FR⟩
  · refine e_bd (gp11_0 Gm ((congrFun Qm 0).trans Ed)) ?_
    obtain ⟨d1, e8, hm⟩ := q_b hm
    have Gc := Gd
    obtain ⟨h6, e9, Gd, F⟩ := l_X9_append _ _ _ _ e8 Gd  
    refine e_bd ((ca9 Gc).trans e9) ?_
    have Gm := fr11 Gm (fun a ha => F a (fun hb => Dmd _ ha hb))
    have FR := fun a na => (F a (fun hb => na (hb))).trans (FR a na)
    refine e_bd (gp11_0 Gm ((congrFun Qm 0).trans Ed)) ?_
    obtain ⟨d2, e8, hm⟩ := q_b hm
    have Gc := Gd
    obtain ⟨h9, e9, Gd, F⟩ := l_X9_append _ _ _ _ e8 Gd  
    refine e_bd ((ca9 Gc).trans e9) ?_
    have Gm := fr11 Gm (fun a ha => F a (fun hb => Dmd _ ha hb))
    have FR := fun a na => (F a (fun hb => na (hb))).trans (FR a na)
    refine e_bd (gp11_0 Gm ((congrFun Qm 0).trans Ed)) ?_
    obtain ⟨d3, e8, hm⟩ := q_b hm
    have Gc := Gd
    obtain ⟨h12, e9, Gd, F⟩ := l_X9_append _ _ _ _ e8 Gd  
    refine e_bd ((ca9 Gc).trans e9) ?_
    have Gm := fr11 Gm (fun a ha => F a (fun hb => Dmd _ ha hb))
    have FR := fun a na => (F a (fun hb => na (hb))).trans (FR a na)
    refine e_bd (gp11_0 Gm ((congrFun Qm 0).trans Ed)) ?_
    obtain ⟨d4, e8, hm⟩ := q_b hm
    have Gc := Gd
    obtain ⟨h15, e9, Gd, F⟩ := l_X9_append _ _ _ _ e8 Gd  
    refine e_bd ((ca9 Gc).trans e9) ?_
    have Gm := fr11 Gm (fun a ha => F a (fun hb => Dmd _ ha hb))
    have FR := fun a na => (F a (fun hb => na (hb))).trans (FR a na)
    refine e_bd (gp11_0 Gm ((congrFun Qm 0).trans Ed)) ?_
    obtain ⟨d5, e8, hm⟩ := q_b hm
    have Gc := Gd
    obtain ⟨h18, e9, Gd, F⟩ := l_X9_append _ _ _ _ e8 Gd  
    refine e_bd ((ca9 Gc).trans e9) ?_
    have Gm := fr11 Gm (fun a ha => F a (fun hb => Dmd _ ha hb))
    have FR := fun a na => (F a (fun hb => na (hb))).trans (FR a na)
    refine e_bd (gp11_0 Gm ((congrFun Qm 0).trans Ed)) ?_
    refine e_bd (gi9_1 Gd) ?_
    have hq0 := Option.some.inj hm
    clear hm
    obtain ⟨rfl, rfl⟩ := Prod.mk.inj hq0
    exact ⟨_, rfl, rfl, Gd, FR⟩
def t_X11_end (m d : g_S) (a1 : Int32) : Option (Int32 × g_S) :=
  if a1 < 0 then
    some ((-1 : Int32), d)
  else
    let v2 := g_I d 1
    if a1 ≤ v2 then
      let d1 := g_si d 1 (a1)
      some (a1, d1)
    else
      some ((-1 : Int32), d)
set_option maxRecDepth 20000 in
theorem l_X11_end (h : q_H) (pm pd : Nat) (m d : g_S) (a1 : Int32) {r : Int32} {d' : g_S} (hm : t_X11_end m d a1 = some (r, d')) (Gm : g11 pm m h) (Gd : g9 pd d h) (Ed : g_P m 0 = some pd) (Dmd : ∀ a, f11 pm a → f9 pd a → False) : q_E (m_X11_end h pm a1) (fun x => x.1 = r ∧ g9 pd d' (x.2) ∧ ∀ a, ¬ (f9 pd a) → (x.2) a = h a) := by
  unfold t_X11_end at hm
  unfold m_X11_end
  have FR : ∀ a, ¬ (f9 pd a) → h a = h a := fun _ _ => rfl
  have Qm : g_P m = g_P m := rfl
  refine e_if hm (fun _ hm => ?_) (fun _ hm => ?_)
  · have hq0 := Option.some.inj hm
    clear hm
    obtain ⟨rfl, rfl⟩ := Prod.mk.inj hq0
    exact ⟨_, rfl, rfl, Gd, FR⟩
  · refine e_bd (gp11_0 Gm ((congrFun Qm 0).trans Ed)) ?_
    refine e_bd (gi9_1 Gd) ?_
    refine e_if hm (fun _ hm => ?_) (fun _ hm => ?_)
    · refine e_bd (gp11_0 Gm ((congrFun Qm 0).trans Ed)) ?_
      refine e_pi (pi9_1 _ Gd) (fun h4 Gd F => ?_)
      have Gm := fr11 Gm (fun a ha => F a (fun hb => Dmd _ ha hb))
      have FR := fun a na => (F a (fun hb => na (hb))).trans (FR a na)
      have hq0 := Option.some.inj hm
      clear hm
      obtain ⟨rfl, rfl⟩ := Prod.mk.inj hq0
      exact ⟨_, rfl, rfl, Gd, FR⟩
    · have hq0 := Option.some.inj hm
      clear hm
      obtain ⟨rfl, rfl⟩ := Prod.mk.inj hq0
      exact ⟨_, rfl, rfl, Gd, FR⟩
def t_X11_force (m l : g_S) (a1 : Int32) : Option (Int32 × g_S) :=
  if a1 < (-1 : Int32) then
    some ((-2 : Int32), l)
  else
    let v1 := g_I m 4
    if a1 < v1 then
      let v3 := g_I l 2
      let l1 := g_si l 2 (a1)
      some (v3, l1)
    else
      some ((-2 : Int32), l)
set_option maxRecDepth 20000 in
theorem l_X11_force (h : q_H) (pm pl : Nat) (m l : g_S) (a1 : Int32) {r : Int32} {l' : g_S} (hm : t_X11_force m l a1 = some (r, l')) (Gm : g11 pm m h) (Gl : g0 pl l h) (El : g_P m 5 = some pl) (Dml : ∀ a, f11 pm a → f0 pl a → False) : q_E (m_X11_force h pm a1) (fun x => x.1 = r ∧ g0 pl l' (x.2) ∧ g_P l' = g_P l ∧ ∀ a, ¬ (f0 pl a) → (x.2) a = h a) := by
  unfold t_X11_force at hm
  unfold m_X11_force
  have FR : ∀ a, ¬ (f0 pl a) → h a = h a := fun _ _ => rfl
  have Qm : g_P m = g_P m := rfl
  have Ql : g_P l = g_P l := rfl
  refine e_if hm (fun _ hm => ?_) (fun _ hm => ?_)
  · have hq0 := Option.some.inj hm
    clear hm
    obtain ⟨rfl, rfl⟩ := Prod.mk.inj hq0
    exact ⟨_, rfl, rfl, Gl, Ql, FR⟩
  · refine e_bd (gi11_4 Gm) ?_
    refine e_if hm (fun _ hm => ?_) (fun _ hm => ?_)
    · refine e_bd (gp11_5 Gm ((congrFun Qm 5).trans El)) ?_
      refine e_bd (gi0_2 Gl) ?_
      refine e_bd (gp11_5 Gm ((congrFun Qm 5).trans El)) ?_
      refine e_pi (pi0_2 _ Gl) (fun h5 Gl F => ?_)
      have Gm := fr11 Gm (fun a ha => F a (fun hb => Dml _ ha hb))
      have FR := fun a na => (F a (fun hb => na (hb))).trans (FR a na)
      have hq0 := Option.some.inj hm
      clear hm
      obtain ⟨rfl, rfl⟩ := Prod.mk.inj hq0
      exact ⟨_, rfl, rfl, Gl, Ql, FR⟩
    · have hq0 := Option.some.inj hm
      clear hm
      obtain ⟨rfl, rfl⟩ := Prod.mk.inj hq0
      exact ⟨_, rfl, rfl, Gl, Ql, FR⟩
def t_X11_puller (m l t o : g_S) (a1 : Int32) (a2 : Int32) : Option Int32 :=
  (t_X0_has l o a1).bind fun r2 =>
  if r2 = 0 then
    some ((-1 : Int32))
  else
    if a2 = 0 then
      (t_ai 8 (g_A t 3) a1).bind fun v7 =>
      some v7
    else
      if a2 = 1 then
        (t_ai 8 (g_A o 5) a1).bind fun v11 =>
        some v11
      else
        if a2 = 2 then
          (t_ai 8 (g_A t 5) a1).bind fun v15 =>
          some v15
        else
          if a2 = 3 then
            (t_ai 8 (g_A o 7) a1).bind fun v19 =>
            some v19
          else
            if a2 = 4 then
              (t_ai 8 (g_A t 4) a1).bind fun v23 =>
              some v23
            else
              if a2 = 5 then
                (t_X10_stands t a1).bind fun r26 =>
                if r26 = 0 then
                  some ((0 : Int32))
                else
                  some ((1 : Int32))
              else
                if a2 = 6 then
                  (t_ai 8 (g_A t 6) a1).bind fun v31 =>
                  some v31
                else
                  some ((-1 : Int32))
set_option maxRecDepth 20000 in
theorem l_X11_puller (h : q_H) (pm pl pt po : Nat) (m l t o : g_S) (a1 : Int32) (a2 : Int32) {r : Int32} (hm : t_X11_puller m l t o a1 a2 = some r) (Gm : g11 pm m h) (Gl : g0 pl l h) (Gt : g10 pt t h) (Go : g4 po o h) (El : g_P m 5 = some pl) (Et : g_P l 1 = some pt) (Eo : g_P l 0 = some po) (Dml : ∀ a, f11 pm a → f0 pl a → False) (Dmt : ∀ a, f11 pm a → f10 pt a → False) (Dmo : ∀ a, f11 pm a → f4 po a → False) (Dlt : ∀ a, f0 pl a → f10 pt a → False) (Dlo : ∀ a, f0 pl a → f4 po a → False) (Dto : ∀ a, f10 pt a → f4 po a → False) : m_X11_puller h pm a1 a2 = some r := by
  unfold t_X11_puller at hm
  unfold m_X11_puller
  refine p_bd (gp11_5 Gm El) ?_
  obtain ⟨r2, e8, hm⟩ := q_b hm
  refine p_bd ((ca0 Gl).trans (l_X0_has _ _ _ _ _ _ e8 Gl Go Eo Dlo)) ?_
  refine r_if _ _ hm (fun _ hm => ?_) (fun _ hm => ?_)
  · exact hm
  · refine r_if _ _ hm (fun _ hm => ?_) (fun _ hm => ?_)
    · refine p_bd (gp11_5 Gm El) ?_
      refine p_bd (gp0_1 Gl Et) ?_
      refine p_bd (gn10_3 Gt) ?_
      refine p_eq (ai10_3 Gt _) hm (fun v7 hm => ?_)
      exact hm
    · refine r_if _ _ hm (fun _ hm => ?_) (fun _ hm => ?_)
      · refine p_bd (gp11_5 Gm El) ?_
        refine p_bd (gp0_0 Gl Eo) ?_
        refine p_bd (gn4_5 Go) ?_
        refine p_eq (ai4_5 Go _) hm (fun v11 hm => ?_)
        exact hm
      · refine r_if _ _ hm (fun _ hm => ?_) (fun _ hm => ?_)
        · refine p_bd (gp11_5 Gm El) ?_
          refine p_bd (gp0_1 Gl Et) ?_
          refine p_bd (gn10_5 Gt) ?_
          refine p_eq (ai10_5 Gt _) hm (fun v15 hm => ?_)
          exact hm
        · refine r_if _ _ hm (fun _ hm => ?_) (fun _ hm => ?_)
          · refine p_bd (gp11_5 Gm El) ?_
            refine p_bd (gp0_0 Gl Eo) ?_
            refine p_bd (gn4_7 Go) ?_
            refine p_eq (ai4_7 Go _) hm (fun v19 hm => ?_)
            exact hm
          · refine r_if _ _ hm (fun _ hm => ?_) (fun _ hm => ?_)
            · refine p_bd (gp11_5 Gm El) ?_
              refine p_bd (gp0_1 Gl Et) ?_
              refine p_bd (gn10_4 Gt) ?_
              refine p_eq (ai10_4 Gt _) hm (fun v23 hm => ?_)
              exact hm
            · refine r_if _ _ hm (fun _ hm => ?_) (fun _ hm => ?_)
              · refine p_bd (gp11_5 Gm El) ?_
                refine p_bd (gp0_1 Gl Et) ?_
                obtain ⟨r26, e8, hm⟩ := q_b hm
                refine p_bd ((ca10 Gt).trans (l_X10_stands _ _ _ _ e8 Gt  )) ?_
                refine r_if _ _ hm (fun _ hm => ?_) (fun _ hm => ?_)
                · exact hm
                · exact hm
              · refine r_if _ _ hm (fun _ hm => ?_) (fun _ hm => ?_)
                · refine p_bd (gp11_5 Gm El) ?_
                  refine p_bd (gp0_1 Gl Et) ?_
                  refine p_bd (gn10_6 Gt) ?_
                  refine p_eq (ai10_6 Gt _) hm (fun v31 hm => ?_)
                  exact hm
                · exact hm
def t_X11_ribbon (m l t : g_S) : Option Int32 :=
  let v2 := g_P l 0
  if v2 = none then
    some ((-1 : Int32))
  else
    let v5 := g_I t 0
    some ((v5 + (100 : Int32)))
set_option maxRecDepth 20000 in
theorem l_X11_ribbon (h : q_H) (pm pl pt : Nat) (m l t : g_S) {r : Int32} (hm : t_X11_ribbon m l t = some r) (Gm : g11 pm m h) (Gl : g0 pl l h) (Gt : g10 pt t h) (El : g_P m 5 = some pl) (Et : g_P l 1 = some pt) (Dml : ∀ a, f11 pm a → f0 pl a → False) (Dmt : ∀ a, f11 pm a → f10 pt a → False) (Dlt : ∀ a, f0 pl a → f10 pt a → False) : m_X11_ribbon h pm = some r := by
  unfold t_X11_ribbon at hm
  unfold m_X11_ribbon
  refine p_bd (gp11_5 Gm El) ?_
  refine p_bd (go0_0 Gl) ?_
  refine r_if _ _ hm (fun _ hm => ?_) (fun _ hm => ?_)
  · exact hm
  · refine p_bd (gp11_5 Gm El) ?_
    refine p_bd (gp0_1 Gl Et) ?_
    refine p_bd (gi10_0 Gt) ?_
    exact hm
def t_X11_fair (m l o : g_S) (a1 : Int32) : Option Int32 :=
  let v2 := g_P l 0
  if v2 = none then
    some ((-1 : Int32))
  else
    if a1 < 0 then
      some ((-1 : Int32))
    else
      if a1 ≤ (1 : Int32) then
        (t_X4_fairestSet o).bind fun r5 =>
        if a1 = 0 then
          (t_X4_differenceBy o r5).bind fun r9 =>
          some r9
        else
          some r5
      else
        some ((-1 : Int32))
set_option maxRecDepth 20000 in
theorem l_X11_fair (h : q_H) (pm pl po : Nat) (m l o : g_S) (a1 : Int32) {r : Int32} (hm : t_X11_fair m l o a1 = some r) (Gm : g11 pm m h) (Gl : g0 pl l h) (Go : g4 po o h) (El : g_P m 5 = some pl) (Eo : g_P l 0 = some po) (Dml : ∀ a, f11 pm a → f0 pl a → False) (Dmo : ∀ a, f11 pm a → f4 po a → False) (Dlo : ∀ a, f0 pl a → f4 po a → False) : m_X11_fair h pm a1 = some r := by
  unfold t_X11_fair at hm
  unfold m_X11_fair
  refine p_bd (gp11_5 Gm El) ?_
  refine p_bd (go0_0 Gl) ?_
  refine r_if _ _ hm (fun _ hm => ?_) (fun _ hm => ?_)
  · exact hm
  · refine r_if _ _ hm (fun _ hm => ?_) (fun _ hm => ?_)
    · exact hm
    · refine r_if _ _ hm (fun _ hm => ?_) (fun _ hm => ?_)
      · refine p_bd (gp11_5 Gm El) ?_
        refine p_bd (gp0_0 Gl Eo) ?_
        obtain ⟨r5, e8, hm⟩ := q_b hm
        refine p_bd ((ca4 Go).trans (l_X4_fairestSet _ _ _ e8 Go  )) ?_
        refine r_if _ _ hm (fun _ hm => ?_) (fun _ hm => ?_)
        · refine p_bd (gp11_5 Gm El) ?_
          refine p_bd (gp0_0 Gl Eo) ?_
          obtain ⟨r9, e8, hm⟩ := q_b hm
          refine p_bd ((ca4 Go).trans (l_X4_differenceBy _ _ _ _ e8 Go  )) ?_
          exact hm
        · exact hm
      · exact hm
def t_X11_fewest (m l o : g_S) (a1 : Int32) : Option Int32 :=
  let v2 := g_P l 0
  if v2 = none then
    some ((-1 : Int32))
  else
    if a1 < 0 then
      some ((-1 : Int32))
    else
      if a1 ≤ (1 : Int32) then
        let v5 := g_I o 3
        if v5 = 0 then
          some ((-2 : Int32))
        else
          (t_X4_smallestSet o).bind fun r8 =>
          if a1 = 0 then
            (m_J6_bitCount_0f7a4 r8).bind fun r10 =>
            some r10
          else
            some r8
      else
        some ((-1 : Int32))
set_option maxRecDepth 20000 in
theorem l_X11_fewest (h : q_H) (pm pl po : Nat) (m l o : g_S) (a1 : Int32) {r : Int32} (hm : t_X11_fewest m l o a1 = some r) (Gm : g11 pm m h) (Gl : g0 pl l h) (Go : g4 po o h) (El : g_P m 5 = some pl) (Eo : g_P l 0 = some po) (Dml : ∀ a, f11 pm a → f0 pl a → False) (Dmo : ∀ a, f11 pm a → f4 po a → False) (Dlo : ∀ a, f0 pl a → f4 po a → False) : m_X11_fewest h pm a1 = some r := by
  unfold t_X11_fewest at hm
  unfold m_X11_fewest
  refine p_bd (gp11_5 Gm El) ?_
  refine p_bd (go0_0 Gl) ?_
  refine r_if _ _ hm (fun _ hm => ?_) (fun _ hm => ?_)
  · exact hm
  · refine r_if _ _ hm (fun _ hm => ?_) (fun _ hm => ?_)
    · exact hm
    · refine r_if _ _ hm (fun _ hm => ?_) (fun _ hm => ?_)
      · refine p_bd (gp11_5 Gm El) ?_
        refine p_bd (gp0_0 Gl Eo) ?_
        refine p_bd (gi4_3 Go) ?_
        refine r_if _ _ hm (fun _ hm => ?_) (fun _ hm => ?_)
        · exact hm
        · refine p_bd (gp11_5 Gm El) ?_
          refine p_bd (gp0_0 Gl Eo) ?_
          obtain ⟨r8, e8, hm⟩ := q_b hm
          refine p_bd ((ca4 Go).trans (l_X4_smallestSet _ _ _ e8 Go  )) ?_
          refine r_if _ _ hm (fun _ hm => ?_) (fun _ hm => ?_)
          · refine r_bd hm (fun r10 hm => ?_)
            exact hm
          · exact hm
      · exact hm
def t_X11_needed (m l o : g_S) : Option Int32 :=
  let v2 := g_P l 0
  if v2 = none then
    some ((-1 : Int32))
  else
    (t_X4_neededSet o).bind fun r5 =>
    some r5
set_option maxRecDepth 20000 in
theorem l_X11_needed (h : q_H) (pm pl po : Nat) (m l o : g_S) {r : Int32} (hm : t_X11_needed m l o = some r) (Gm : g11 pm m h) (Gl : g0 pl l h) (Go : g4 po o h) (El : g_P m 5 = some pl) (Eo : g_P l 0 = some po) (Dml : ∀ a, f11 pm a → f0 pl a → False) (Dmo : ∀ a, f11 pm a → f4 po a → False) (Dlo : ∀ a, f0 pl a → f4 po a → False) : m_X11_needed h pm = some r := by
  unfold t_X11_needed at hm
  unfold m_X11_needed
  refine p_bd (gp11_5 Gm El) ?_
  refine p_bd (go0_0 Gl) ?_
  refine r_if _ _ hm (fun _ hm => ?_) (fun _ hm => ?_)
  · exact hm
  · refine p_bd (gp11_5 Gm El) ?_
    refine p_bd (gp0_0 Gl Eo) ?_
    obtain ⟨r5, e8, hm⟩ := q_b hm
    refine p_bd ((ca4 Go).trans (l_X4_neededSet _ _ _ e8 Go  )) ?_
    exact hm
def t_X11_pence (m l t o : g_S) (a1 : Int32) (a2 : Int32) : Option Int32 :=
  (t_X0_has l o a2).bind fun r2 =>
  if r2 = 0 then
    some ((-1 : Int32))
  else
    if a1 < 0 then
      some ((-1 : Int32))
    else
      if a1 ≤ (9999 : Int32) then
        let v8 := g_I o 3
        (t_X10_penceOf t a1 a2 v8).bind fun r9 =>
        some r9
      else
        some ((-1 : Int32))
set_option maxRecDepth 20000 in
theorem l_X11_pence (h : q_H) (pm pl pt po : Nat) (m l t o : g_S) (a1 : Int32) (a2 : Int32) {r : Int32} (hm : t_X11_pence m l t o a1 a2 = some r) (Gm : g11 pm m h) (Gl : g0 pl l h) (Gt : g10 pt t h) (Go : g4 po o h) (El : g_P m 5 = some pl) (Et : g_P l 1 = some pt) (Eo : g_P l 0 = some po) (Dml : ∀ a, f11 pm a → f0 pl a → False) (Dmt : ∀ a, f11 pm a → f10 pt a → False) (Dmo : ∀ a, f11 pm a → f4 po a → False) (Dlt : ∀ a, f0 pl a → f10 pt a → False) (Dlo : ∀ a, f0 pl a → f4 po a → False) (Dto : ∀ a, f10 pt a → f4 po a → False) : m_X11_pence h pm a1 a2 = some r := by
  unfold t_X11_pence at hm
  unfold m_X11_pence
  refine p_bd (gp11_5 Gm El) ?_
  obtain ⟨r2, e8, hm⟩ := q_b hm
  refine p_bd ((ca0 Gl).trans (l_X0_has _ _ _ _ _ _ e8 Gl Go Eo Dlo)) ?_
  refine r_if _ _ hm (fun _ hm => ?_) (fun _ hm => ?_)
  · exact hm
  · refine r_if _ _ hm (fun _ hm => ?_) (fun _ hm => ?_)
    · exact hm
    · refine r_if _ _ hm (fun _ hm => ?_) (fun _ hm => ?_)
      · refine p_bd (gp11_5 Gm El) ?_
        refine p_bd (gp0_1 Gl Et) ?_
        refine p_bd (gp11_5 Gm El) ?_
        refine p_bd (gp0_0 Gl Eo) ?_
        refine p_bd (gi4_3 Go) ?_
        obtain ⟨r9, e8, hm⟩ := q_b hm
        refine p_bd ((ca10 Gt).trans (l_X10_penceOf _ _ _ _ _ _ e8 Gt  )) ?_
        exact hm
      · exact hm
def t_X11_note_41 (m l : g_S) (x1 : Int32) (x2 : Int32) (s0 : Int32) : Option (Int32 × g_S) :=
  if s0 = 0 then
    some ((-2 : Int32), l)
  else
    let v4 := g_P l 0
    if v4 = none then
      some ((-2 : Int32), l)
    else
      let v6 := g_I l 4
      if v6 < (10 : Int32) then
        (t_X0_addNote l x1 ((x2 - (100 : Int32)))).bind fun l2 =>
        let v11 := g_I l2 4
        some (v11, l2)
      else
        some ((-2 : Int32), l)
set_option maxRecDepth 20000 in
theorem l_X11_note_41 (pm pl : Nat) (Dml : ∀ a, f11 pm a → f0 pl a → False) {r : Int32} {l' : g_S} : ∀ (h : q_H) (m l : g_S) (x1 : Int32) (x2 : Int32) (s0 : Int32), t_X11_note_41 m l x1 x2 s0 = some (r, l') → g11 pm m h → g0 pl l h → g_P m 5 = some pl → q_E (m_X11_note_41 h pm x1 x2 s0) (fun x => x.1 = r ∧ g0 pl l' (x.2) ∧ g_P l' = g_P l ∧ ∀ a, ¬ (f0 pl a) → (x.2) a = h a) := by
  intro h m l x1 x2 s0 hm Gm Gl El
  unfold t_X11_note_41 at hm
  unfold m_X11_note_41
  have FR : ∀ a, ¬ (f0 pl a) → h a = h a := fun _ _ => rfl
  have Qm : g_P m = g_P m := rfl
  have Ql : g_P l = g_P l := rfl
  refine e_if hm (fun _ hm => ?_) (fun _ hm => ?_)
  · have hq0 := Option.some.inj hm
    clear hm
    obtain ⟨rfl, rfl⟩ := Prod.mk.inj hq0
    exact ⟨_, rfl, rfl, Gl, Ql, FR⟩
  · refine e_bd (gp11_5 Gm ((congrFun Qm 5).trans El)) ?_
    refine e_bd (go0_0 Gl) ?_
    refine e_if hm (fun _ hm => ?_) (fun _ hm => ?_)
    · have hq0 := Option.some.inj hm
      clear hm
      obtain ⟨rfl, rfl⟩ := Prod.mk.inj hq0
      exact ⟨_, rfl, rfl, Gl, Ql, FR⟩
    · refine e_bd (gp11_5 Gm ((congrFun Qm 5).trans El)) ?_
      refine e_bd (gi0_4 Gl) ?_
      refine e_if hm (fun _ hm => ?_) (fun _ hm => ?_)
      · refine e_bd (gp11_5 Gm ((congrFun Qm 5).trans El)) ?_
        obtain ⟨l2, e8, hm⟩ := q_b hm
        have Gc := Gl
        obtain ⟨h9, e9, Gl, Rl, F⟩ := l_X0_addNote _ _ _ _ _ e8 Gl  
        have Ql := Rl.trans Ql
        refine e_bd ((ca0 Gc).trans e9) ?_
        have Gm := fr11 Gm (fun a ha => F a (fun hb => Dml _ ha hb))
        have FR := fun a na => (F a (fun hb => na (hb))).trans (FR a na)
        refine e_bd (gp11_5 Gm ((congrFun Qm 5).trans El)) ?_
        refine e_bd (gi0_4 Gl) ?_
        have hq0 := Option.some.inj hm
        clear hm
        obtain ⟨rfl, rfl⟩ := Prod.mk.inj hq0
        exact ⟨_, rfl, rfl, Gl, Ql, FR⟩
      · have hq0 := Option.some.inj hm
        clear hm
        obtain ⟨rfl, rfl⟩ := Prod.mk.inj hq0
        exact ⟨_, rfl, rfl, Gl, Ql, FR⟩
def t_X11_note_40 (m l : g_S) (x1 : Int32) (x2 : Int32) : Option (Int32 × g_S) :=
  t_X11_note_41 m l x1 x2 ((0 : Int32))
set_option maxRecDepth 20000 in
theorem l_X11_note_40 (pm pl : Nat) (Dml : ∀ a, f11 pm a → f0 pl a → False) {r : Int32} {l' : g_S} : ∀ (h : q_H) (m l : g_S) (x1 : Int32) (x2 : Int32), t_X11_note_40 m l x1 x2 = some (r, l') → g11 pm m h → g0 pl l h → g_P m 5 = some pl → q_E (m_X11_note_40 h pm x1 x2) (fun x => x.1 = r ∧ g0 pl l' (x.2) ∧ g_P l' = g_P l ∧ ∀ a, ¬ (f0 pl a) → (x.2) a = h a) := by
  intro h m l x1 x2 hm Gm Gl El
  unfold t_X11_note_40 at hm
  unfold m_X11_note_40
  have FR : ∀ a, ¬ (f0 pl a) → h a = h a := fun _ _ => rfl
  have Qm : g_P m = g_P m := rfl
  have Ql : g_P l = g_P l := rfl
  obtain ⟨x9, e9, e7, Gl, Rl, F⟩ := l_X11_note_41 pm pl Dml _ _ _ _ _ _ hm Gm Gl ((congrFun Qm 5).trans El)
  exact ⟨x9, e9, e7, Gl, Rl.trans Ql, fun a na => (F a na).trans (FR a na)⟩
def t_X11_note (m l : g_S) (a1 : Int32) (a2 : Int32) : Option (Int32 × g_S) :=
  if a1 = (-1 : Int32) then
    let l1 := g_si l 4 (0 : Int32)
    some ((0 : Int32), l1)
  else
    if a1 < 0 then
      t_X11_note_40 m l a1 a2
    else
      if (60 : Int32) < a1 then
        t_X11_note_40 m l a1 a2
      else
        if a2 < 0 then
          t_X11_note_40 m l a1 a2
        else
          if (200 : Int32) < a2 then
            t_X11_note_40 m l a1 a2
          else
            t_X11_note_41 m l a1 a2 ((1 : Int32))
set_option maxRecDepth 20000 in
theorem l_X11_note (h : q_H) (pm pl : Nat) (m l : g_S) (a1 : Int32) (a2 : Int32) {r : Int32} {l' : g_S} (hm : t_X11_note m l a1 a2 = some (r, l')) (Gm : g11 pm m h) (Gl : g0 pl l h) (El : g_P m 5 = some pl) (Dml : ∀ a, f11 pm a → f0 pl a → False) : q_E (m_X11_note h pm a1 a2) (fun x => x.1 = r ∧ g0 pl l' (x.2) ∧ g_P l' = g_P l ∧ ∀ a, ¬ (f0 pl a) → (x.2) a = h a) := by
  unfold t_X11_note at hm
  unfold m_X11_note
  have FR : ∀ a, ¬ (f0 pl a) → h a = h a := fun _ _ => rfl
  have Qm : g_P m = g_P m := rfl
  have Ql : g_P l = g_P l := rfl
  refine e_if hm (fun _ hm => ?_) (fun _ hm => ?_)
  · refine e_bd (gp11_5 Gm ((congrFun Qm 5).trans El)) ?_
    refine e_pi (pi0_4 _ Gl) (fun h2 Gl F => ?_)
    have Gm := fr11 Gm (fun a ha => F a (fun hb => Dml _ ha hb))
    have FR := fun a na => (F a (fun hb => na (hb))).trans (FR a na)
    have hq0 := Option.some.inj hm
    clear hm
    obtain ⟨rfl, rfl⟩ := Prod.mk.inj hq0
    exact ⟨_, rfl, rfl, Gl, Ql, FR⟩
  · refine e_if hm (fun _ hm => ?_) (fun _ hm => ?_)
    · obtain ⟨x9, e9, e7, Gl, Rl, F⟩ := l_X11_note_40 pm pl Dml _ _ _ _ _ hm Gm Gl ((congrFun Qm 5).trans El)
      exact ⟨x9, e9, e7, Gl, Rl.trans Ql, fun a na => (F a na).trans (FR a na)⟩
    · refine e_if hm (fun _ hm => ?_) (fun _ hm => ?_)
      · obtain ⟨x9, e9, e7, Gl, Rl, F⟩ := l_X11_note_40 pm pl Dml _ _ _ _ _ hm Gm Gl ((congrFun Qm 5).trans El)
        exact ⟨x9, e9, e7, Gl, Rl.trans Ql, fun a na => (F a na).trans (FR a na)⟩
      · refine e_if hm (fun _ hm => ?_) (fun _ hm => ?_)
        · obtain ⟨x9, e9, e7, Gl, Rl, F⟩ := l_X11_note_40 pm pl Dml _ _ _ _ _ hm Gm Gl ((congrFun Qm 5).trans El)
          exact ⟨x9, e9, e7, Gl, Rl.trans Ql, fun a na => (F a na).trans (FR a na)⟩
        · refine e_if hm (fun _ hm => ?_) (fun _ hm => ?_)
          · obtain ⟨x9, e9, e7, Gl, Rl, F⟩ := l_X11_note_40 pm pl Dml _ _ _ _ _ hm Gm Gl ((congrFun Qm 5).trans El)
            exact ⟨x9, e9, e7, Gl, Rl.trans Ql, fun a na => (F a na).trans (FR a na)⟩
          · obtain ⟨x9, e9, e7, Gl, Rl, F⟩ := l_X11_note_41 pm pl Dml _ _ _ _ _ _ hm Gm Gl ((congrFun Qm 5).trans El)
            exact ⟨x9, e9, e7, Gl, Rl.trans Ql, fun a na => (F a na).trans (FR a na)⟩
def t_X11_seed (m l : g_S) (a1 : Int32) : Option (Int32 × g_S) :=
  if 0 ≤ a1 then
    let v2 := g_I l 3
    let l1 := g_si l 3 (a1)
    some (v2, l1)
  else
    some ((-1 : Int32), l)
set_option maxRecDepth 20000 in
theorem l_X11_seed (h : q_H) (pm pl : Nat) (m l : g_S) (a1 : Int32) {r : Int32} {l' : g_S} (hm : t_X11_seed m l a1 = some (r, l')) (Gm : g11 pm m h) (Gl : g0 pl l h) (El : g_P m 5 = some pl) (Dml : ∀ a, f11 pm a → f0 pl a → False) : q_E (m_X11_seed h pm a1) (fun x => x.1 = r ∧ g0 pl l' (x.2) ∧ g_P l' = g_P l ∧ ∀ a, ¬ (f0 pl a) → (x.2) a = h a) := by
  unfold t_X11_seed at hm
  unfold m_X11_seed
  have FR : ∀ a, ¬ (f0 pl a) → h a = h a := fun _ _ => rfl
  have Qm : g_P m = g_P m := rfl
  have Ql : g_P l = g_P l := rfl
  refine e_if hm (fun _ hm => ?_) (fun _ hm => ?_)
  · refine e_bd (gp11_5 Gm ((congrFun Qm 5).trans El)) ?_
    refine e_bd (gi0_3 Gl) ?_
    refine e_bd (gp11_5 Gm ((congrFun Qm 5).trans El)) ?_
    refine e_pi (pi0_3 _ Gl) (fun h4 Gl F => ?_)
    have Gm := fr11 Gm (fun a ha => F a (fun hb => Dml _ ha hb))
    have FR := fun a na => (F a (fun hb => na (hb))).trans (FR a na)
    have hq0 := Option.some.inj hm
    clear hm
    obtain ⟨rfl, rfl⟩ := Prod.mk.inj hq0
    exact ⟨_, rfl, rfl, Gl, Ql, FR⟩
  · have hq0 := Option.some.inj hm
    clear hm
    obtain ⟨rfl, rfl⟩ := Prod.mk.inj hq0
    exact ⟨_, rfl, rfl, Gl, Ql, FR⟩
def t_X11_count (m l t o j d : g_S) (a1 : Int32) : Option Int32 :=
  if a1 = 0 then
    let v2 := g_P l 0
    if v2 = none then
      some ((0 : Int32))
    else
      let v5 := g_I o 0
      some v5
  else
    if a1 = 1 then
      let v7 := g_P l 0
      if v7 = none then
        some ((0 : Int32))
      else
        let v10 := g_I o 1
        some v10
    else
      if a1 = 2 then
        (t_X0_pullers l o).bind fun r12 =>
        some r12
      else
        if a1 = 3 then
          let v14 := g_I m 4
          some v14
        else
          if a1 = 4 then
            let v16 := g_I l 2
            some v16
          else
            if a1 = 5 then
              let v19 := g_I t 1
              some v19
            else
              if a1 = 6 then
                (t_X0_pullers l o).bind fun r23 =>
                (t_X10_setOnSide t ((0 : Int32)) r23).bind fun r25 =>
                some r25
              else
                if a1 = 7 then
                  let v29 := g_I t 2
                  some v29
                else
                  if a1 = 8 then
                    let v31 := g_P l 0
                    if v31 = none then
                      some ((0 : Int32))
                    else
                      let v36 := g_I o 0
                      (t_X10_isOver t v36).bind fun r37 =>
                      if r37 = 0 then
                        some ((0 : Int32))
                      else
                        some ((1 : Int32))
                  else
                    if a1 = 9 then
                      (t_X0_pullers l o).bind fun r42 =>
                      (t_X10_workedTogether t r42).bind fun r44 =>
                      some r44
                    else
                      if a1 = 10 then
                        let v47 := g_I l 4
                        some v47
                      else
                        if a1 = 11 then
                          let v49 := g_I j 2
                          some v49
                        else
                          if a1 = 12 then
                            let v51 := g_I l 3
                            some v51
                          else
                            if a1 = 13 then
                              let v53 := g_I d 1
                              some v53
                            else
                              some ((-1 : Int32))
set_option maxRecDepth 20000 in
theorem l_X11_count (h : q_H) (pm pl pt po pj pd : Nat) (m l t o j d : g_S) (a1 : Int32) {r : Int32} (hm : t_X11_count m l t o j d a1 = some r) (Gm : g11 pm m h) (Gl : g0 pl l h) (Gt : g10 pt t h) (Go : g4 po o h) (Gj : g2 pj j h) (Gd : g9 pd d h) (El : g_P m 5 = some pl) (Et : g_P l 1 = some pt) (Eo : g_P l 0 = some po) (Ej : g_P m 6 = some pj) (Ed : g_P m 0 = some pd) (Dml : ∀ a, f11 pm a → f0 pl a → False) (Dmt : ∀ a, f11 pm a → f10 pt a → False) (Dmo : ∀ a, f11 pm a → f4 po a → False) (Dmj : ∀ a, f11 pm a → f2 pj a → False) (Dmd : ∀ a, f11 pm a → f9 pd a → False) (Dlt : ∀ a, f0 pl a → f10 pt a → False) (Dlo : ∀ a, f0 pl a → f4 po a → False) (Dlj : ∀ a, f0 pl a → f2 pj a → False) (Dld : ∀ a, f0 pl a → f9 pd a → False) (Dto : ∀ a, f10 pt a → f4 po a → False) (Dtj : ∀ a, f10 pt a → f2 pj a → False) (Dtd : ∀ a, f10 pt a → f9 pd a → False) (Doj : ∀ a, f4 po a → f2 pj a → False) (Dod : ∀ a, f4 po a → f9 pd a → False) (Djd : ∀ a, f2 pj a → f9 pd a → False) : m_X11_count h pm a1 = some r := by
  unfold t_X11_count at hm
  unfold m_X11_count
  refine r_if _ _ hm (fun _ hm => ?_) (fun _ hm => ?_)
  · refine p_bd (gp11_5 Gm El) ?_
    refine p_bd (go0_0 Gl) ?_
    refine r_if _ _ hm (fun _ hm => ?_) (fun _ hm => ?_)
    · exact hm
    · refine p_bd (gp11_5 Gm El) ?_
      refine p_bd (gp0_0 Gl Eo) ?_
      refine p_bd (gi4_0 Go) ?_
      exact hm
  · refine r_if _ _ hm (fun _ hm => ?_) (fun _ hm => ?_)
    · refine p_bd (gp11_5 Gm El) ?_
      refine p_bd (go0_0 Gl) ?_
      refine r_if _ _ hm (fun _ hm => ?_) (fun _ hm => ?_)
      · exact hm
      · refine p_bd (gp11_5 Gm El) ?_
        refine p_bd (gp0_0 Gl Eo) ?_
        refine p_bd (gi4_1 Go) ?_
        exact hm
    · refine r_if _ _ hm (fun _ hm => ?_) (fun _ hm => ?_)
      · refine p_bd (gp11_5 Gm El) ?_
        obtain ⟨r12, e8, hm⟩ := q_b hm
        refine p_bd ((ca0 Gl).trans (l_X0_pullers _ _ _ _ _ e8 Gl Go Eo Dlo)) ?_
        exact hm
      · refine r_if _ _ hm (fun _ hm => ?_) (fun _ hm => ?_)
        · refine p_bd (gi11_4 Gm) ?_
          exact hm
        · refine r_if _ _ hm (fun _ hm => ?_) (fun _ hm => ?_)
          · refine p_bd (gp11_5 Gm El) ?_
            refine p_bd (gi0_2 Gl) ?_
            exact hm
          · refine r_if _ _ hm (fun _ hm => ?_) (fun _ hm => ?_)
            · refine p_bd (gp11_5 Gm El) ?_
              refine p_bd (gp0_1 Gl Et) ?_
              refine p_bd (gi10_1 Gt) ?_
              exact hm
            · refine r_if _ _ hm (fun _ hm => ?_) (fun _ hm => ?_)
              · refine p_bd (gp11_5 Gm El) ?_
                refine p_bd (gp0_1 Gl Et) ?_
                refine p_bd (gp11_5 Gm El) ?_
                obtain ⟨r23, e8, hm⟩ := q_b hm
                refine p_bd ((ca0 Gl).trans (l_X0_pullers _ _ _ _ _ e8 Gl Go Eo Dlo)) ?_
                obtain ⟨r25, e8, hm⟩ := q_b hm
                refine p_bd ((ca10 Gt).trans (l_X10_setOnSide _ _ _ _ _ e8 Gt  )) ?_
                exact hm
              · refine r_if _ _ hm (fun _ hm => ?_) (fun _ hm => ?_)
                · refine p_bd (gp11_5 Gm El) ?_
                  refine p_bd (gp0_1 Gl Et) ?_
                  refine p_bd (gi10_2 Gt) ?_
                  exact hm
                · refine r_if _ _ hm (fun _ hm => ?_) (fun _ hm => ?_)
                  · refine p_bd (gp11_5 Gm El) ?_
                    refine p_bd (go0_0 Gl) ?_
                    refine r_if _ _ hm (fun _ hm => ?_) (fun _ hm => ?_)
                    · exact hm
                    · refine p_bd (gp11_5 Gm El) ?_
                      refine p_bd (gp0_1 Gl Et) ?_
                      refine p_bd (gp11_5 Gm El) ?_
                      refine p_bd (gp0_0 Gl Eo) ?_
                      refine p_bd (gi4_0 Go) ?_
                      obtain ⟨r37, e8, hm⟩ := q_b hm
                      refine p_bd ((ca10 Gt).trans (l_X10_isOver _ _ _ _ e8 Gt  )) ?_
                      refine r_if _ _ hm (fun _ hm => ?_) (fun _ hm => ?_)
                      · exact hm
                      · exact hm
                  · refine r_if _ _ hm (fun _ hm => ?_) (fun _ hm => ?_)
                    · refine p_bd (gp11_5 Gm El) ?_
                      refine p_bd (gp0_1 Gl Et) ?_
                      refine p_bd (gp11_5 Gm El) ?_
                      obtain ⟨r42, e8, hm⟩ := q_b hm
                      refine p_bd ((ca0 Gl).trans (l_X0_pullers _ _ _ _ _ e8 Gl Go Eo Dlo)) ?_
                      obtain ⟨r44, e8, hm⟩ := q_b hm
                      refine p_bd ((ca10 Gt).trans (l_X10_workedTogether _ _ _ _ e8 Gt  )) ?_
                      exact hm
                    · refine r_if _ _ hm (fun _ hm => ?_) (fun _ hm => ?_)
                      · refine p_bd (gp11_5 Gm El) ?_
                        refine p_bd (gi0_4 Gl) ?_
                        exact hm
                      · refine r_if _ _ hm (fun _ hm => ?_) (fun _ hm => ?_)
                        · refine p_bd (gp11_6 Gm Ej) ?_
                          refine p_bd (gi2_2 Gj) ?_
                          exact hm
                        · refine r_if _ _ hm (fun _ hm => ?_) (fun _ hm => ?_)
                          · refine p_bd (gp11_5 Gm El) ?_
                            refine p_bd (gi0_3 Gl) ?_
                            exact hm
                          · refine r_if _ _ hm (fun _ hm => ?_) (fun _ hm => ?_)
                            · refine p_bd (gp11_0 Gm Ed) ?_
                              refine p_bd (gi9_1 Gd) ?_
                              exact hm
                            · exact hm
def t_X11_swings (m l o : g_S) (a1 : Int32) : Option Int32 :=
  (t_X0_has l o a1).bind fun r2 =>
  if r2 = 0 then
    some ((-1 : Int32))
  else
    (t_X4_tipsBy o a1 ((0 : Int32))).bind fun r6 =>
    some r6
set_option maxRecDepth 20000 in
theorem l_X11_swings (h : q_H) (pm pl po : Nat) (m l o : g_S) (a1 : Int32) {r : Int32} (hm : t_X11_swings m l o a1 = some r) (Gm : g11 pm m h) (Gl : g0 pl l h) (Go : g4 po o h) (El : g_P m 5 = some pl) (Eo : g_P l 0 = some po) (Dml : ∀ a, f11 pm a → f0 pl a → False) (Dmo : ∀ a, f11 pm a → f4 po a → False) (Dlo : ∀ a, f0 pl a → f4 po a → False) : m_X11_swings h pm a1 = some r := by
  unfold t_X11_swings at hm
  unfold m_X11_swings
  refine p_bd (gp11_5 Gm El) ?_
  obtain ⟨r2, e8, hm⟩ := q_b hm
  refine p_bd ((ca0 Gl).trans (l_X0_has _ _ _ _ _ _ e8 Gl Go Eo Dlo)) ?_
  refine r_if _ _ hm (fun _ hm => ?_) (fun _ hm => ?_)
  · exact hm
  · refine p_bd (gp11_5 Gm El) ?_
    refine p_bd (gp0_0 Gl Eo) ?_
    obtain ⟨r6, e8, hm⟩ := q_b hm
    refine p_bd ((ca4 Go).trans (l_X4_tipsBy _ _ _ _ _ e8 Go  )) ?_
    exact hm
def t_X11_shares (m l o : g_S) (a1 : Int32) : Option Int32 :=
  (t_X0_has l o a1).bind fun r2 =>
  if r2 = 0 then
    some ((-1 : Int32))
  else
    (t_X4_tipsBy o a1 ((1 : Int32))).bind fun r6 =>
    some r6
set_option maxRecDepth 20000 in
theorem l_X11_shares (h : q_H) (pm pl po : Nat) (m l o : g_S) (a1 : Int32) {r : Int32} (hm : t_X11_shares m l o a1 = some r) (Gm : g11 pm m h) (Gl : g0 pl l h) (Go : g4 po o h) (El : g_P m 5 = some pl) (Eo : g_P l 0 = some po) (Dml : ∀ a, f11 pm a → f0 pl a → False) (Dmo : ∀ a, f11 pm a → f4 po a → False) (Dlo : ∀ a, f0 pl a → f4 po a → False) : m_X11_shares h pm a1 = some r := by
  unfold t_X11_shares at hm
  unfold m_X11_shares
  refine p_bd (gp11_5 Gm El) ?_
  obtain ⟨r2, e8, hm⟩ := q_b hm
  refine p_bd ((ca0 Gl).trans (l_X0_has _ _ _ _ _ _ e8 Gl Go Eo Dlo)) ?_
  refine r_if _ _ hm (fun _ hm => ?_) (fun _ hm => ?_)
  · exact hm
  · refine p_bd (gp11_5 Gm El) ?_
    refine p_bd (gp0_0 Gl Eo) ?_
    obtain ⟨r6, e8, hm⟩ := q_b hm
    refine p_bd ((ca4 Go).trans (l_X4_tipsBy _ _ _ _ _ e8 Go  )) ?_
    exact hm
