def t_X6_evaluate_174 (k6 : g_S → g_S → g_S → Int32 → Int32 → Int32 → Option (Int64 × g_S)) (u w k : g_S) (x2 : Int32) (x5 : Int32) (x6 : Int32) : Option (Int64 × g_S) :=
  k6 u w k x2 x5 ((x6 + (1 : Int32)))
set_option maxRecDepth 20000 in
theorem l_X6_evaluate_174 (pu pw pk : Nat) (Duw : ∀ a, f6 pu a → f20 pw a → False) (Duk : ∀ a, f6 pu a → f20 pk a → False) (Dwk : ∀ a, f20 pw a → f20 pk a → False) {r : Int64} {k' : g_S} {k6 : g_S → g_S → g_S → Int32 → Int32 → Int32 → Option (Int64 × g_S)} {gk6 : q_H → Nat → Int32 → Nat → Nat → Int32 → Int32 → Option (Int64 × q_H)} (hk6 : ∀ (h : q_H) (u w k : g_S) (x2 : Int32) (x5 : Int32) (x6 : Int32), k6 u w k x2 x5 x6 = some (r, k') → g6 pu u h → g20 pw w h → g20 pk k h → q_E (gk6 h pu x2 pw pk x5 x6) (fun x => x.1 = r ∧ g20 pk k' (x.2) ∧ g_N k' = g_N k ∧ ∀ a, ¬ (f20 pk a) → (x.2) a = h a)) : ∀ (h : q_H) (u w k : g_S) (x2 : Int32) (x5 : Int32) (x6 : Int32), t_X6_evaluate_174 k6 u w k x2 x5 x6 = some (r, k') → g6 pu u h → g20 pw w h → g20 pk k h → q_E (m_X6_evaluate_174 gk6 h pu x2 pw pk x5 x6) (fun x => x.1 = r ∧ g20 pk k' (x.2) ∧ g_N k' = g_N k ∧ ∀ a, ¬ (f20 pk a) → (x.2) a = h a) := by
  intro h u w k x2 x5 x6 hm Gu Gw Gk 
  unfold t_X6_evaluate_174 at hm
  unfold m_X6_evaluate_174
  have FR : ∀ a, ¬ (f20 pk a) → h a = h a := fun _ _ => rfl
  have Mw : g_N w = g_N w := rfl
  have Mk : g_N k = g_N k := rfl
  obtain ⟨x9, e9, e7, Gk, Sk, F⟩ := hk6 _ _ _ _ _ _ _ hm Gu Gw Gk 
  exact ⟨x9, e9, e7, Gk, Sk.trans Mk, fun a na => (F a na).trans (FR a na)⟩
def t_X6_evaluate_101 (k6 : g_S → g_S → g_S → Int32 → Int32 → Int32 → Option (Int64 × g_S)) (u w k : g_S) (x2 : Int32) (x5 : Int32) (x6 : Int32) (s0 : Int64) (s1 : Int32) : Option (Int64 × g_S) :=
  (u_sl (g_N k 0) k 0 s1 s0).bind fun k4 =>
  t_X6_evaluate_174 k6 u w k4 x2 ((x5 + (1 : Int32))) x6
set_option maxRecDepth 20000 in
theorem l_X6_evaluate_101 (pu pw pk : Nat) (Duw : ∀ a, f6 pu a → f20 pw a → False) (Duk : ∀ a, f6 pu a → f20 pk a → False) (Dwk : ∀ a, f20 pw a → f20 pk a → False) {r : Int64} {k' : g_S} {k6 : g_S → g_S → g_S → Int32 → Int32 → Int32 → Option (Int64 × g_S)} {gk6 : q_H → Nat → Int32 → Nat → Nat → Int32 → Int32 → Option (Int64 × q_H)} (hk6 : ∀ (h : q_H) (u w k : g_S) (x2 : Int32) (x5 : Int32) (x6 : Int32), k6 u w k x2 x5 x6 = some (r, k') → g6 pu u h → g20 pw w h → g20 pk k h → q_E (gk6 h pu x2 pw pk x5 x6) (fun x => x.1 = r ∧ g20 pk k' (x.2) ∧ g_N k' = g_N k ∧ ∀ a, ¬ (f20 pk a) → (x.2) a = h a)) : ∀ (h : q_H) (u w k : g_S) (x2 : Int32) (x5 : Int32) (x6 : Int32) (s0 : Int64) (s1 : Int32), t_X6_evaluate_101 k6 u w k x2 x5 x6 s0 s1 = some (r, k') → g6 pu u h → g20 pw w h → g20 pk k h → q_E (m_X6_evaluate_101 gk6 h pu x2 pw pk x5 x6 s0 s1 pk) (fun x => x.1 = r ∧ g20 pk k' (x.2) ∧ g_N k' = g_N k ∧ ∀ a, ¬ (f20 pk a) → (x.2) a = h a) := by
  intro h u w k x2 x5 x6 s0 s1 hm Gu Gw Gk 
  unfold t_X6_evaluate_101 at hm
  unfold m_X6_evaluate_101
  have FR : ∀ a, ¬ (f20 pk a) → h a = h a := fun _ _ => rfl
  have Mw : g_N w = g_N w := rfl
  have Mk : g_N k = g_N k := rfl
  obtain ⟨k4, e8, hm⟩ := q_b hm
  obtain ⟨h13, e9, Gk, F⟩ := as20_0 Gk e8
  have Mk := (u_sl_N e8).trans Mk
  refine e_bd e9 ?_
  have Gu := fr6 Gu (fun a ha => F a (fun hb => Duk _ ha hb))
  have Gw := fr20 Gw (fun a ha => F a (fun hb => Dwk _ ha hb))
  have FR := fun a na => (F a (fun hb => na (hb))).trans (FR a na)
  obtain ⟨x9, e9, e7, Gk, Sk, F⟩ := l_X6_evaluate_174 pu pw pk Duw Duk Dwk hk6 _ _ _ _ _ _ _ hm Gu Gw Gk 
  exact ⟨x9, e9, e7, Gk, Sk.trans Mk, fun a na => (F a na).trans (FR a na)⟩
def t_X6_evaluate_139 (k6 : g_S → g_S → g_S → Int32 → Int32 → Int32 → Option (Int64 × g_S)) (u w k : g_S) (x2 : Int32) (x5 : Int32) (x6 : Int32) (x7 : Int32) : Option (Int64 × g_S) :=
  if x5 < (2 : Int32) then
    t_X6_evaluate_174 k6 u w k x2 x5 x6
  else
    (t_al (g_N k 0) (g_L k 0) ((x5 - (2 : Int32)))).bind fun v14 =>
    (t_al (g_N k 0) (g_L k 0) ((x5 - (1 : Int32)))).bind fun v15 =>
    (m_X6_joined x7 v14 v15).bind fun r16 =>
    (u_sl (g_N k 0) k 0 ((x5 - (2 : Int32))) r16).bind fun k3 =>
    t_X6_evaluate_174 k6 u w k3 x2 ((x5 + (-1 : Int32))) x6
set_option maxRecDepth 20000 in
theorem l_X6_evaluate_139 (pu pw pk : Nat) (Duw : ∀ a, f6 pu a → f20 pw a → False) (Duk : ∀ a, f6 pu a → f20 pk a → False) (Dwk : ∀ a, f20 pw a → f20 pk a → False) {r : Int64} {k' : g_S} {k6 : g_S → g_S → g_S → Int32 → Int32 → Int32 → Option (Int64 × g_S)} {gk6 : q_H → Nat → Int32 → Nat → Nat → Int32 → Int32 → Option (Int64 × q_H)} (hk6 : ∀ (h : q_H) (u w k : g_S) (x2 : Int32) (x5 : Int32) (x6 : Int32), k6 u w k x2 x5 x6 = some (r, k') → g6 pu u h → g20 pw w h → g20 pk k h → q_E (gk6 h pu x2 pw pk x5 x6) (fun x => x.1 = r ∧ g20 pk k' (x.2) ∧ g_N k' = g_N k ∧ ∀ a, ¬ (f20 pk a) → (x.2) a = h a)) : ∀ (h : q_H) (u w k : g_S) (x2 : Int32) (x5 : Int32) (x6 : Int32) (x7 : Int32), t_X6_evaluate_139 k6 u w k x2 x5 x6 x7 = some (r, k') → g6 pu u h → g20 pw w h → g20 pk k h → q_E (m_X6_evaluate_139 gk6 h pu x2 pw pk x5 x6 x7) (fun x => x.1 = r ∧ g20 pk k' (x.2) ∧ g_N k' = g_N k ∧ ∀ a, ¬ (f20 pk a) → (x.2) a = h a) := by
  intro h u w k x2 x5 x6 x7 hm Gu Gw Gk 
  unfold t_X6_evaluate_139 at hm
  unfold m_X6_evaluate_139
  have FR : ∀ a, ¬ (f20 pk a) → h a = h a := fun _ _ => rfl
  have Mw : g_N w = g_N w := rfl
  have Mk : g_N k = g_N k := rfl
  refine e_if hm (fun _ hm => ?_) (fun _ hm => ?_)
  · obtain ⟨x9, e9, e7, Gk, Sk, F⟩ := l_X6_evaluate_174 pu pw pk Duw Duk Dwk hk6 _ _ _ _ _ _ _ hm Gu Gw Gk 
    exact ⟨x9, e9, e7, Gk, Sk.trans Mk, fun a na => (F a na).trans (FR a na)⟩
  · refine e_eq (ai20_0 Gk _) hm (fun v14 hm => ?_)
    refine e_eq (ai20_0 Gk _) hm (fun v15 hm => ?_)
    refine e_oo hm (fun r16 hm => ?_)
    obtain ⟨k3, e8, hm⟩ := q_b hm
    obtain ⟨h17, e9, Gk, F⟩ := as20_0 Gk e8
    have Mk := (u_sl_N e8).trans Mk
    refine e_bd e9 ?_
    have Gu := fr6 Gu (fun a ha => F a (fun hb => Duk _ ha hb))
    have Gw := fr20 Gw (fun a ha => F a (fun hb => Dwk _ ha hb))
    have FR := fun a na => (F a (fun hb => na (hb))).trans (FR a na)
    obtain ⟨x9, e9, e7, Gk, Sk, F⟩ := l_X6_evaluate_174 pu pw pk Duw Duk Dwk hk6 _ _ _ _ _ _ _ hm Gu Gw Gk 
    exact ⟨x9, e9, e7, Gk, Sk.trans Mk, fun a na => (F a na).trans (FR a na)⟩
def t_X6_evaluate_180 (u w k : g_S) : Option (Int64 × g_S) :=
  (t_al (g_N k 0) (g_L k 0) ((0 : Int32))).bind fun v18 =>
  some (v18, k)
set_option maxRecDepth 20000 in
theorem l_X6_evaluate_180 (pu pw pk : Nat) (Duw : ∀ a, f6 pu a → f20 pw a → False) (Duk : ∀ a, f6 pu a → f20 pk a → False) (Dwk : ∀ a, f20 pw a → f20 pk a → False) {r : Int64} {k' : g_S} : ∀ (h : q_H) (u w k : g_S), t_X6_evaluate_180 u w k = some (r, k') → g6 pu u h → g20 pw w h → g20 pk k h → q_E (m_X6_evaluate_180 h pk) (fun x => x.1 = r ∧ g20 pk k' (x.2) ∧ g_N k' = g_N k ∧ ∀ a, ¬ (f20 pk a) → (x.2) a = h a) := by
  intro h u w k  hm Gu Gw Gk 
  unfold t_X6_evaluate_180 at hm
  unfold m_X6_evaluate_180
  have FR : ∀ a, ¬ (f20 pk a) → h a = h a := fun _ _ => rfl
  have Mw : g_N w = g_N w := rfl
  have Mk : g_N k = g_N k := rfl
  refine e_eq (ai20_0 Gk _) hm (fun v18 hm => ?_)
  have hq0 := Option.some.inj hm
  clear hm
  obtain ⟨rfl, rfl⟩ := Prod.mk.inj hq0
  exact ⟨_, rfl, rfl, Gk, Mk, FR⟩
def t_X6_evaluate_6  : Nat → g_S → g_S → g_S → Int32 → Int32 → Int32 → Option (Int64 × g_S)
  | 0, _, _, _, _, _, _ => none
  | n + 1, u, w, k, x2, x5, x6 =>
    if x2 ≤ x6 then
      t_X6_evaluate_180 u w k
    else
      let v2 := Int32.ofNat (g_N u 0)
      if v2 ≤ x6 then
        t_X6_evaluate_180 u w k
      else
        let v3 := Int32.ofNat (g_N k 0)
        if v3 ≤ x5 then
          t_X6_evaluate_180 u w k
        else
          (t_ai (g_N u 0) (g_A u 0) x6).bind fun v5 =>
          (t_ai (g_N u 0) (g_A u 0) x6).bind fun v7 =>
          if (q_rmi v5 ((32 : Int32))) = (15 : Int32) then
            (u_sl (g_N k 0) k 0 x5 (((v7 / (32 : Int32))).toInt64)).bind fun k1 =>
            t_X6_evaluate_174 (t_X6_evaluate_6 n) u w k1 x2 ((x5 + (1 : Int32))) x6
          else
            if (q_rmi v5 ((32 : Int32))) = (16 : Int32) then
              let v10 := Int32.ofNat (g_N w 0)
              if v10 ≤ (v7 / (32 : Int32)) then
                t_X6_evaluate_101 (t_X6_evaluate_6 n) u w k x2 x5 x6 ((0 : Int64)) x5
              else
                (t_al (g_N w 0) (g_L w 0) ((v7 / (32 : Int32)))).bind fun v11 =>
                t_X6_evaluate_101 (t_X6_evaluate_6 n) u w k x2 x5 x6 v11 x5
            else
              if (q_rmi v5 ((32 : Int32))) = (4 : Int32) then
                if x5 < (1 : Int32) then
                  t_X6_evaluate_139 (t_X6_evaluate_6 n) u w k x2 x5 x6 ((q_rmi v5 ((32 : Int32))))
                else
                  (t_al (g_N k 0) (g_L k 0) ((x5 - (1 : Int32)))).bind fun v8 =>
                  (u_sl (g_N k 0) k 0 ((x5 - (1 : Int32))) (((1 : Int64) - v8))).bind fun k2 =>
                  t_X6_evaluate_174 (t_X6_evaluate_6 n) u w k2 x2 x5 x6
              else
                t_X6_evaluate_139 (t_X6_evaluate_6 n) u w k x2 x5 x6 ((q_rmi v5 ((32 : Int32))))
set_option maxRecDepth 20000 in
theorem l_X6_evaluate_6 (pu pw pk : Nat) (Duw : ∀ a, f6 pu a → f20 pw a → False) (Duk : ∀ a, f6 pu a → f20 pk a → False) (Dwk : ∀ a, f20 pw a → f20 pk a → False) {r : Int64} {k' : g_S} : ∀ (n : Nat) (h : q_H) (u w k : g_S) (x2 : Int32) (x5 : Int32) (x6 : Int32), t_X6_evaluate_6 n u w k x2 x5 x6 = some (r, k') → g6 pu u h → g20 pw w h → g20 pk k h → q_E (m_X6_evaluate_6 n h pu x2 pw pk x5 x6) (fun x => x.1 = r ∧ g20 pk k' (x.2) ∧ g_N k' = g_N k ∧ ∀ a, ¬ (f20 pk a) → (x.2) a = h a) := by
  intro n
  induction n with
  | zero => intro h u w k x2 x5 x6 hm Gu Gw Gk ; cases hm
  | succ n ih =>
    intro h u w k x2 x5 x6 hm Gu Gw Gk 
    unfold t_X6_evaluate_6 at hm
    unfold m_X6_evaluate_6
    have FR : ∀ a, ¬ (f20 pk a) → h a = h a := fun _ _ => rfl
    have Mw : g_N w = g_N w := rfl
    have Mk : g_N k = g_N k := rfl
    refine e_if hm (fun _ hm => ?_) (fun _ hm => ?_)
    · obtain ⟨x9, e9, e7, Gk, Sk, F⟩ := l_X6_evaluate_180 pu pw pk Duw Duk Dwk _ _ _ _ hm Gu Gw Gk 
      exact ⟨x9, e9, e7, Gk, Sk.trans Mk, fun a na => (F a na).trans (FR a na)⟩
    · refine e_bd (gn6_0 Gu) ?_
      refine e_bd (ln6_0 Gu) ?_
      refine e_if hm (fun _ hm => ?_) (fun _ hm => ?_)
      · obtain ⟨x9, e9, e7, Gk, Sk, F⟩ := l_X6_evaluate_180 pu pw pk Duw Duk Dwk _ _ _ _ hm Gu Gw Gk 
        exact ⟨x9, e9, e7, Gk, Sk.trans Mk, fun a na => (F a na).trans (FR a na)⟩
      · refine e_bd (ln20_0 Gk) ?_
        refine e_if hm (fun _ hm => ?_) (fun _ hm => ?_)
        · obtain ⟨x9, e9, e7, Gk, Sk, F⟩ := l_X6_evaluate_180 pu pw pk Duw Duk Dwk _ _ _ _ hm Gu Gw Gk 
          exact ⟨x9, e9, e7, Gk, Sk.trans Mk, fun a na => (F a na).trans (FR a na)⟩
        · refine e_bd (gn6_0 Gu) ?_
          refine e_eq (ai6_0 Gu _) hm (fun v5 hm => ?_)
          refine e_bd (gn6_0 Gu) ?_
          refine e_eq (ai6_0 Gu _) hm (fun v7 hm => ?_)
          refine e_if hm (fun _ hm => ?_) (fun _ hm => ?_)
          · obtain ⟨k1, e8, hm⟩ := q_b hm
            obtain ⟨h12, e9, Gk, F⟩ := as20_0 Gk e8
            have Mk := (u_sl_N e8).trans Mk
            refine e_bd e9 ?_
            have Gu := fr6 Gu (fun a ha => F a (fun hb => Duk _ ha hb))
            have Gw := fr20 Gw (fun a ha => F a (fun hb => Dwk _ ha hb))
            have FR := fun a na => (F a (fun hb => na (hb))).trans (FR a na)
            obtain ⟨x9, e9, e7, Gk, Sk, F⟩ := l_X6_evaluate_174 pu pw pk Duw Duk Dwk ih _ _ _ _ _ _ _ hm Gu Gw Gk 
            exact ⟨x9, e9, e7, Gk, Sk.trans Mk, fun a na => (F a na).trans (FR a na)⟩
          · refine e_if hm (fun _ hm => ?_) (fun _ hm => ?_)
            · refine e_bd (ln20_0 Gw) ?_
              refine e_if hm (fun _ hm => ?_) (fun _ hm => ?_)
              · obtain ⟨x9, e9, e7, Gk, Sk, F⟩ := l_X6_evaluate_101 pu pw pk Duw Duk Dwk ih _ _ _ _ _ _ _ _ _ hm Gu Gw Gk 
                exact ⟨x9, e9, e7, Gk, Sk.trans Mk, fun a na => (F a na).trans (FR a na)⟩
              · refine e_eq (ai20_0 Gw _) hm (fun v11 hm => ?_)
                obtain ⟨x9, e9, e7, Gk, Sk, F⟩ := l_X6_evaluate_101 pu pw pk Duw Duk Dwk ih _ _ _ _ _ _ _ _ _ hm Gu Gw Gk 
                exact ⟨x9, e9, e7, Gk, Sk.trans Mk, fun a na => (F a na).trans (FR a na)⟩
            · refine e_if hm (fun _ hm => ?_) (fun _ hm => ?_)
              · refine e_if hm (fun _ hm => ?_) (fun _ hm => ?_)
                · obtain ⟨x9, e9, e7, Gk, Sk, F⟩ := l_X6_evaluate_139 pu pw pk Duw Duk Dwk ih _ _ _ _ _ _ _ _ hm Gu Gw Gk 
                  exact ⟨x9, e9, e7, Gk, Sk.trans Mk, fun a na => (F a na).trans (FR a na)⟩
                · refine e_eq (ai20_0 Gk _) hm (fun v8 hm => ?_)
                  obtain ⟨k2, e8, hm⟩ := q_b hm
                  obtain ⟨h9, e9, Gk, F⟩ := as20_0 Gk e8
                  have Mk := (u_sl_N e8).trans Mk
                  refine e_bd e9 ?_
                  have Gu := fr6 Gu (fun a ha => F a (fun hb => Duk _ ha hb))
                  have Gw := fr20 Gw (fun a ha => F a (fun hb => Dwk _ ha hb))
                  have FR := fun a na => (F a (fun hb => na (hb))).trans (FR a na)
                  obtain ⟨x9, e9, e7, Gk, Sk, F⟩ := l_X6_evaluate_174 pu pw pk Duw Duk Dwk ih _ _ _ _ _ _ _ hm Gu Gw Gk 
                  exact ⟨x9, e9, e7, Gk, Sk.trans Mk, fun a na => (F a na).trans (FR a na)⟩
              · obtain ⟨x9, e9, e7, Gk, Sk, F⟩ := l_X6_evaluate_139 pu pw pk Duw Duk Dwk ih _ _ _ _ _ _ _ _ hm Gu Gw Gk 
                exact ⟨x9, e9, e7, Gk, Sk.trans Mk, fun a na => (F a na).trans (FR a na)⟩
def t_X6_evaluate (u w k : g_S) (a1 : Int32) (a2 : Int32) : Option (Int64 × g_S) :=
  t_X6_evaluate_6 q_fu u w k a2 ((0 : Int32)) a1
set_option maxRecDepth 20000 in
theorem l_X6_evaluate (h : q_H) (pu pw pk : Nat) (u w k : g_S) (a1 : Int32) (a2 : Int32) {r : Int64} {k' : g_S} (hm : t_X6_evaluate u w k a1 a2 = some (r, k')) (Gu : g6 pu u h) (Gw : g20 pw w h) (Gk : g20 pk k h) (Duw : ∀ a, f6 pu a → f20 pw a → False) (Duk : ∀ a, f6 pu a → f20 pk a → False) (Dwk : ∀ a, f20 pw a → f20 pk a → False) : q_E (m_X6_evaluate h pu a1 a2 pw pk) (fun x => x.1 = r ∧ g20 pk k' (x.2) ∧ g_N k' = g_N k ∧ ∀ a, ¬ (f20 pk a) → (x.2) a = h a) := by
  unfold t_X6_evaluate at hm
  unfold m_X6_evaluate
  have FR : ∀ a, ¬ (f20 pk a) → h a = h a := fun _ _ => rfl
  have Mw : g_N w = g_N w := rfl
  have Mk : g_N k = g_N k := rfl
  obtain ⟨x9, e9, e7, Gk, Sk, F⟩ := l_X6_evaluate_6 pu pw pk Duw Duk Dwk _ _ _ _ _ _ _ _ hm Gu Gw Gk 
  exact ⟨x9, e9, e7, Gk, Sk.trans Mk, fun a na => (F a na).trans (FR a na)⟩
def t_X6_saysTo_71 (u w k : g_S) (x3 : Int32) : Option (Int64 × g_S) :=
  (t_ai (g_N u 1) (g_A u 1) x3).bind fun v14 =>
  (t_ai (g_N u 1) (g_A u 1) ((x3 + (1 : Int32)))).bind fun v16 =>
  (t_X6_evaluate u w k v14 v16).bind fun (r17, k2) =>
  some (r17, k2)
set_option maxRecDepth 20000 in
theorem l_X6_saysTo_71 (pu pw pk : Nat) (Duw : ∀ a, f6 pu a → f20 pw a → False) (Duk : ∀ a, f6 pu a → f20 pk a → False) (Dwk : ∀ a, f20 pw a → f20 pk a → False) {r : Int64} {k' : g_S} : ∀ (h : q_H) (u w k : g_S) (x3 : Int32), t_X6_saysTo_71 u w k x3 = some (r, k') → g6 pu u h → g20 pw w h → g20 pk k h → q_E (m_X6_saysTo_71 h pu pw pk x3) (fun x => x.1 = r ∧ g20 pk k' (x.2) ∧ g_N k' = g_N k ∧ ∀ a, ¬ (f20 pk a) → (x.2) a = h a) := by
  intro h u w k x3 hm Gu Gw Gk 
  unfold t_X6_saysTo_71 at hm
  unfold m_X6_saysTo_71
  have FR : ∀ a, ¬ (f20 pk a) → h a = h a := fun _ _ => rfl
  have Mw : g_N w = g_N w := rfl
  have Mk : g_N k = g_N k := rfl
  refine e_bd (gn6_1 Gu) ?_
  refine e_eq (ai6_1 Gu _) hm (fun v14 hm => ?_)
  refine e_bd (gn6_1 Gu) ?_
  refine e_eq (ai6_1 Gu _) hm (fun v16 hm => ?_)
  obtain ⟨⟨r17, k2⟩, e8, hm⟩ := q_b hm
  have Gc := Gu
  obtain ⟨⟨r9, h18⟩, e9, e7, Gk, Sk, F⟩ := l_X6_evaluate _ _ _ _ _ _ _ _ _ e8 Gu Gw Gk  Duw Duk Dwk
  dsimp only at e7 Gk F
  subst e7
  have Mk := Sk.trans Mk
  refine e_bd ((ca6 Gc).trans e9) ?_
  have Gu := fr6 Gu (fun a ha => F a (fun hb => Duk _ ha hb))
  have Gw := fr20 Gw (fun a ha => F a (fun hb => Dwk _ ha hb))
  have FR := fun a na => (F a (fun hb => na (hb))).trans (FR a na)
  have hq0 := Option.some.inj hm
  clear hm
  obtain ⟨rfl, rfl⟩ := Prod.mk.inj hq0
  exact ⟨_, rfl, rfl, Gk, Mk, FR⟩
def t_X6_saysTo_37 (k2 : g_S → g_S → g_S → Int32 → Option (Int64 × g_S)) (u w k : g_S) (x3 : Int32) (s0 : Int32) : Option (Int64 × g_S) :=
  if s0 = 0 then
    (t_ai (g_N u 1) (g_A u 1) ((x3 + (1 : Int32)))).bind fun v8 =>
    (t_ai (g_N u 1) (g_A u 1) ((x3 + (2 : Int32)))).bind fun v10 =>
    (t_X6_evaluate u w k v8 v10).bind fun (r11, k1) =>
    if (lg_cmp r11 ((0 : Int64))) = 0 then
      k2 u w k1 ((x3 + (2 : Int32)))
    else
      t_X6_saysTo_71 u w k1 x3
  else
    t_X6_saysTo_71 u w k x3
set_option maxRecDepth 20000 in
theorem l_X6_saysTo_37 (pu pw pk : Nat) (Duw : ∀ a, f6 pu a → f20 pw a → False) (Duk : ∀ a, f6 pu a → f20 pk a → False) (Dwk : ∀ a, f20 pw a → f20 pk a → False) {r : Int64} {k' : g_S} {k2 : g_S → g_S → g_S → Int32 → Option (Int64 × g_S)} {gk2 : q_H → Nat → Nat → Nat → Int32 → Option (Int64 × q_H)} (hk2 : ∀ (h : q_H) (u w k : g_S) (x3 : Int32), k2 u w k x3 = some (r, k') → g6 pu u h → g20 pw w h → g20 pk k h → q_E (gk2 h pu pw pk x3) (fun x => x.1 = r ∧ g20 pk k' (x.2) ∧ g_N k' = g_N k ∧ ∀ a, ¬ (f20 pk a) → (x.2) a = h a)) : ∀ (h : q_H) (u w k : g_S) (x3 : Int32) (s0 : Int32), t_X6_saysTo_37 k2 u w k x3 s0 = some (r, k') → g6 pu u h → g20 pw w h → g20 pk k h → q_E (m_X6_saysTo_37 gk2 h pu pw pk x3 s0) (fun x => x.1 = r ∧ g20 pk k' (x.2) ∧ g_N k' = g_N k ∧ ∀ a, ¬ (f20 pk a) → (x.2) a = h a) := by
  intro h u w k x3 s0 hm Gu Gw Gk 
  unfold t_X6_saysTo_37 at hm
  unfold m_X6_saysTo_37
  have FR : ∀ a, ¬ (f20 pk a) → h a = h a := fun _ _ => rfl
  have Mw : g_N w = g_N w := rfl
  have Mk : g_N k = g_N k := rfl
  refine e_if hm (fun _ hm => ?_) (fun _ hm => ?_)
  · refine e_bd (gn6_1 Gu) ?_
    refine e_eq (ai6_1 Gu _) hm (fun v8 hm => ?_)
    refine e_bd (gn6_1 Gu) ?_
    refine e_eq (ai6_1 Gu _) hm (fun v10 hm => ?_)
    obtain ⟨⟨r11, k1⟩, e8, hm⟩ := q_b hm
    have Gc := Gu
    obtain ⟨⟨r9, h12⟩, e9, e7, Gk, Sk, F⟩ := l_X6_evaluate _ _ _ _ _ _ _ _ _ e8 Gu Gw Gk  Duw Duk Dwk
    dsimp only at e7 Gk F
    subst e7
    have Mk := Sk.trans Mk
    refine e_bd ((ca6 Gc).trans e9) ?_
    have Gu := fr6 Gu (fun a ha => F a (fun hb => Duk _ ha hb))
    have Gw := fr20 Gw (fun a ha => F a (fun hb => Dwk _ ha hb))
    have FR := fun a na => (F a (fun hb => na (hb))).trans (FR a na)
    refine e_if hm (fun _ hm => ?_) (fun _ hm => ?_)
    · obtain ⟨x9, e9, e7, Gk, Sk, F⟩ := hk2 _ _ _ _ _ hm Gu Gw Gk 
      exact ⟨x9, e9, e7, Gk, Sk.trans Mk, fun a na => (F a na).trans (FR a na)⟩
    · obtain ⟨x9, e9, e7, Gk, Sk, F⟩ := l_X6_saysTo_71 pu pw pk Duw Duk Dwk _ _ _ _ _ hm Gu Gw Gk 
      exact ⟨x9, e9, e7, Gk, Sk.trans Mk, fun a na => (F a na).trans (FR a na)⟩
  · obtain ⟨x9, e9, e7, Gk, Sk, F⟩ := l_X6_saysTo_71 pu pw pk Duw Duk Dwk _ _ _ _ _ hm Gu Gw Gk 
    exact ⟨x9, e9, e7, Gk, Sk.trans Mk, fun a na => (F a na).trans (FR a na)⟩
def t_X6_saysTo_2  : Nat → g_S → g_S → g_S → Int32 → Option (Int64 × g_S)
  | 0, _, _, _, _ => none
  | n + 1, u, w, k, x3 =>
    let v2 := Int32.ofNat (g_N u 1)
    if v2 ≤ (x3 + (2 : Int32)) then
      some ((0 : Int64), k)
    else
      (t_ai (g_N u 1) (g_A u 1) ((x3 + (1 : Int32)))).bind fun v4 =>
      (t_ai (g_N u 1) (g_A u 1) ((x3 + (2 : Int32)))).bind fun v6 =>
      if v4 = v6 then
        t_X6_saysTo_37 (t_X6_saysTo_2 n) u w k x3 ((1 : Int32))
      else
        t_X6_saysTo_37 (t_X6_saysTo_2 n) u w k x3 ((0 : Int32))
set_option maxRecDepth 20000 in
theorem l_X6_saysTo_2 (pu pw pk : Nat) (Duw : ∀ a, f6 pu a → f20 pw a → False) (Duk : ∀ a, f6 pu a → f20 pk a → False) (Dwk : ∀ a, f20 pw a → f20 pk a → False) {r : Int64} {k' : g_S} : ∀ (n : Nat) (h : q_H) (u w k : g_S) (x3 : Int32), t_X6_saysTo_2 n u w k x3 = some (r, k') → g6 pu u h → g20 pw w h → g20 pk k h → q_E (m_X6_saysTo_2 n h pu pw pk x3) (fun x => x.1 = r ∧ g20 pk k' (x.2) ∧ g_N k' = g_N k ∧ ∀ a, ¬ (f20 pk a) → (x.2) a = h a) := by
  intro n
  induction n with
  | zero => intro h u w k x3 hm Gu Gw Gk ; cases hm
  | succ n ih =>
    intro h u w k x3 hm Gu Gw Gk 
    unfold t_X6_saysTo_2 at hm
    unfold m_X6_saysTo_2
    have FR : ∀ a, ¬ (f20 pk a) → h a = h a := fun _ _ => rfl
    have Mw : g_N w = g_N w := rfl
    have Mk : g_N k = g_N k := rfl
    refine e_bd (gn6_1 Gu) ?_
    refine e_bd (ln6_1 Gu) ?_
    refine e_if hm (fun _ hm => ?_) (fun _ hm => ?_)
    · have hq0 := Option.some.inj hm
      clear hm
      obtain ⟨rfl, rfl⟩ := Prod.mk.inj hq0
      exact ⟨_, rfl, rfl, Gk, Mk, FR⟩
    · refine e_bd (gn6_1 Gu) ?_
      refine e_eq (ai6_1 Gu _) hm (fun v4 hm => ?_)
      refine e_bd (gn6_1 Gu) ?_
      refine e_eq (ai6_1 Gu _) hm (fun v6 hm => ?_)
      refine e_if hm (fun _ hm => ?_) (fun _ hm => ?_)
      · obtain ⟨x9, e9, e7, Gk, Sk, F⟩ := l_X6_saysTo_37 pu pw pk Duw Duk Dwk ih _ _ _ _ _ _ hm Gu Gw Gk 
        exact ⟨x9, e9, e7, Gk, Sk.trans Mk, fun a na => (F a na).trans (FR a na)⟩
      · obtain ⟨x9, e9, e7, Gk, Sk, F⟩ := l_X6_saysTo_37 pu pw pk Duw Duk Dwk ih _ _ _ _ _ _ hm Gu Gw Gk 
        exact ⟨x9, e9, e7, Gk, Sk.trans Mk, fun a na => (F a na).trans (FR a na)⟩
def t_X6_saysTo (u w k : g_S) : Option (Int64 × g_S) :=
  t_X6_saysTo_2 q_fu u w k ((0 : Int32))
set_option maxRecDepth 20000 in
theorem l_X6_saysTo (h : q_H) (pu pw pk : Nat) (u w k : g_S) {r : Int64} {k' : g_S} (hm : t_X6_saysTo u w k = some (r, k')) (Gu : g6 pu u h) (Gw : g20 pw w h) (Gk : g20 pk k h) (Duw : ∀ a, f6 pu a → f20 pw a → False) (Duk : ∀ a, f6 pu a → f20 pk a → False) (Dwk : ∀ a, f20 pw a → f20 pk a → False) : q_E (m_X6_saysTo h pu pw pk) (fun x => x.1 = r ∧ g20 pk k' (x.2) ∧ g_N k' = g_N k ∧ ∀ a, ¬ (f20 pk a) → (x.2) a = h a) := by
  unfold t_X6_saysTo at hm
  unfold m_X6_saysTo
  have FR : ∀ a, ¬ (f20 pk a) → h a = h a := fun _ _ => rfl
  have Mw : g_N w = g_N w := rfl
  have Mk : g_N k = g_N k := rfl
  obtain ⟨x9, e9, e7, Gk, Sk, F⟩ := l_X6_saysTo_2 pu pw pk Duw Duk Dwk _ _ _ _ _ _ hm Gu Gw Gk 
  exact ⟨x9, e9, e7, Gk, Sk.trans Mk, fun a na => (F a na).trans (FR a na)⟩
def t_X1_fix (y : g_S) (a1 : Int32) (a2 : Int32) : Option g_S :=
  if a1 < 0 then
    some y
  else
    let v2 := Int32.ofNat 8
    if v2 ≤ a1 then
      some y
    else
      (u_si 8 y 2 a1 a2).bind fun y1 =>
      some y1
set_option maxRecDepth 20000 in
theorem l_X1_fix (h : q_H) (py : Nat) (y : g_S) (a1 : Int32) (a2 : Int32) {y' : g_S} (hm : t_X1_fix y a1 a2 = some y') (Gy : g1 py y h) : q_E (m_X1_fix h py a1 a2) (fun x => g1 py y' (x) ∧ g_P y' = g_P y ∧ ∀ a, ¬ (f1 py a) → (x) a = h a) := by
  unfold t_X1_fix at hm
  unfold m_X1_fix
  have FR : ∀ a, ¬ (f1 py a) → h a = h a := fun _ _ => rfl
  have Qy : g_P y = g_P y := rfl
  refine e_if hm (fun _ hm => ?_) (fun _ hm => ?_)
  · obtain rfl := Option.some.inj hm
    exact ⟨_, rfl, Gy, Qy, FR⟩
  · refine e_bd (gn1_2 Gy) ?_
    refine e_bd (ln1_2 Gy) ?_
    refine e_if hm (fun _ hm => ?_) (fun _ hm => ?_)
    · obtain rfl := Option.some.inj hm
      exact ⟨_, rfl, Gy, Qy, FR⟩
    · refine e_bd (gn1_2 Gy) ?_
      obtain ⟨y1, e8, hm⟩ := q_b hm
      obtain ⟨h4, e9, Gy, F⟩ := as1_2 Gy e8
      have Qy := (u_si_P e8).trans Qy
      refine e_bd e9 ?_
      have FR := fun a na => (F a (fun hb => na (hb))).trans (FR a na)
      obtain rfl := Option.some.inj hm
      exact ⟨_, rfl, Gy, Qy, FR⟩
def t_X1_tellWords (y o t : g_S) (a2 : Int32) : Option g_S :=
  (t_ai 8 (g_A t 3) a2).bind fun v2 =>
  (u_sl 11 y 5 ((0 : Int32)) a2.toInt64).bind fun y1 =>
  (u_sl 11 y1 5 ((1 : Int32)) v2.toInt64).bind fun y2 =>
  (t_ai 8 (g_A o 5) a2).bind fun v10 =>
  (u_sl 11 y2 5 ((2 : Int32)) v10.toInt64).bind fun y3 =>
  (t_ai 8 (g_A t 5) a2).bind fun v14 =>
  (u_sl 11 y3 5 ((3 : Int32)) v14.toInt64).bind fun y4 =>
  (t_ai 8 (g_A o 7) a2).bind fun v19 =>
  (u_sl 11 y4 5 ((4 : Int32)) v19.toInt64).bind fun y5 =>
  (t_ai 8 (g_A t 4) a2).bind fun v23 =>
  (u_sl 11 y5 5 ((5 : Int32)) v23.toInt64).bind fun y6 =>
  (t_ai 2 (g_A y6 4) v2).bind fun v27 =>
  (u_sl 11 y6 5 ((6 : Int32)) (((v27 - (1 : Int32))).toInt64)).bind fun y7 =>
  (t_X10_towards t v2).bind fun r30 =>
  (u_sl 11 y7 5 ((7 : Int32)) r30.toInt64).bind fun y8 =>
  let v35 := g_I o 0
  (u_sl 11 y8 5 ((8 : Int32)) v35.toInt64).bind fun y9 =>
  (t_ai 8 (g_A t 6) a2).bind fun v39 =>
  (u_sl 11 y9 5 ((9 : Int32)) v39.toInt64).bind fun y10 =>
  let v42 := g_I t 1
  (u_sl 11 y10 5 ((10 : Int32)) v42.toInt64).bind fun y11 =>
  some y11
set_option maxRecDepth 20000 in
theorem l_X1_tellWords (h : q_H) (py po pt : Nat) (y o t : g_S) (a2 : Int32) {y' : g_S} (hm : t_X1_tellWords y o t a2 = some y') (Gy : g1 py y h) (Go : g4 po o h) (Gt : g10 pt t h) (Eo : g_P y 0 = some po) (Dyo : ∀ a, f1 py a → f4 po a → False) (Dyt : ∀ a, f1 py a → f10 pt a → False) (Dot : ∀ a, f4 po a → f10 pt a → False) : q_E (m_X1_tellWords h py pt a2) (fun x => g1 py y' (x) ∧ g_P y' = g_P y ∧ ∀ a, ¬ (f1 py a) → (x) a = h a) := by
  unfold t_X1_tellWords at hm
  unfold m_X1_tellWords
  have FR : ∀ a, ¬ (f1 py a) → h a = h a := fun _ _ => rfl
  have Qy : g_P y = g_P y := rfl
  refine e_bd (gn10_3 Gt) ?_
  refine e_eq (ai10_3 Gt _) hm (fun v2 hm => ?_)
  refine e_bd (gn1_5 Gy) ?_
  obtain ⟨y1, e8, hm⟩ := q_b hm
  obtain ⟨h4, e9, Gy, F⟩ := as1_5 Gy e8
  have Qy := (u_sl_P e8).trans Qy
  refine e_bd e9 ?_
  have Go := fr4 Go (fun a ha => F a (fun hb => Dyo _ hb ha))
  have Gt := fr10 Gt (fun a ha => F a (fun hb => Dyt _ hb ha))
  have FR := fun a na => (F a (fun hb => na (hb))).trans (FR a na)
  refine e_bd (gn1_5 Gy) ?_
  obtain ⟨y2, e8, hm⟩ := q_b hm
  obtain ⟨h6, e9, Gy, F⟩ := as1_5 Gy e8
  have Qy := (u_sl_P e8).trans Qy
  refine e_bd e9 ?_
  have Go := fr4 Go (fun a ha => F a (fun hb => Dyo _ hb ha))
  have Gt := fr10 Gt (fun a ha => F a (fun hb => Dyt _ hb ha))
  have FR := fun a na => (F a (fun hb => na (hb))).trans (FR a na)
  refine e_bd (gn1_5 Gy) ?_
  refine e_bd (gp1_0 Gy ((congrFun Qy 0).trans Eo)) ?_
  refine e_bd (gn4_5 Go) ?_
  refine e_eq (ai4_5 Go _) hm (fun v10 hm => ?_)
  obtain ⟨y3, e8, hm⟩ := q_b hm
  obtain ⟨h11, e9, Gy, F⟩ := as1_5 Gy e8
  have Qy := (u_sl_P e8).trans Qy
  refine e_bd e9 ?_
  have Go := fr4 Go (fun a ha => F a (fun hb => Dyo _ hb ha))
  have Gt := fr10 Gt (fun a ha => F a (fun hb => Dyt _ hb ha))
  have FR := fun a na => (F a (fun hb => na (hb))).trans (FR a na)
  refine e_bd (gn1_5 Gy) ?_
  refine e_bd (gn10_5 Gt) ?_
  refine e_eq (ai10_5 Gt _) hm (fun v14 hm => ?_)
  obtain ⟨y4, e8, hm⟩ := q_b hm
  obtain ⟨h15, e9, Gy, F⟩ := as1_5 Gy e8
  have Qy := (u_sl_P e8).trans Qy
  refine e_bd e9 ?_
  have Go := fr4 Go (fun a ha => F a (fun hb => Dyo _ hb ha))
  have Gt := fr10 Gt (fun a ha => F a (fun hb => Dyt _ hb ha))
  have FR := fun a na => (F a (fun hb => na (hb))).trans (FR a na)
  refine e_bd (gn1_5 Gy) ?_
  refine e_bd (gp1_0 Gy ((congrFun Qy 0).trans Eo)) ?_
  refine e_bd (gn4_7 Go) ?_
  refine e_eq (ai4_7 Go _) hm (fun v19 hm => ?_)
  obtain ⟨y5, e8, hm⟩ := q_b hm
  obtain ⟨h20, e9, Gy, F⟩ := as1_5 Gy e8
  have Qy := (u_sl_P e8).trans Qy
  refine e_bd e9 ?_
  have Go := fr4 Go (fun a ha => F a (fun hb => Dyo _ hb ha))
  have Gt := fr10 Gt (fun a ha => F a (fun hb => Dyt _ hb ha))
  have FR := fun a na => (F a (fun hb => na (hb))).trans (FR a na)
  refine e_bd (gn1_5 Gy) ?_
  refine e_bd (gn10_4 Gt) ?_
  refine e_eq (ai10_4 Gt _) hm (fun v23 hm => ?_)
  obtain ⟨y6, e8, hm⟩ := q_b hm
  obtain ⟨h24, e9, Gy, F⟩ := as1_5 Gy e8
  have Qy := (u_sl_P e8).trans Qy
  refine e_bd e9 ?_
  have Go := fr4 Go (fun a ha => F a (fun hb => Dyo _ hb ha))
  have Gt := fr10 Gt (fun a ha => F a (fun hb => Dyt _ hb ha))
  have FR := fun a na => (F a (fun hb => na (hb))).trans (FR a na)
  refine e_bd (gn1_5 Gy) ?_
  refine e_bd (gn1_4 Gy) ?_
  refine e_eq (ai1_4 Gy _) hm (fun v27 hm => ?_)
  obtain ⟨y7, e8, hm⟩ := q_b hm
  obtain ⟨h28, e9, Gy, F⟩ := as1_5 Gy e8
  have Qy := (u_sl_P e8).trans Qy
  refine e_bd e9 ?_
  have Go := fr4 Go (fun a ha => F a (fun hb => Dyo _ hb ha))
  have Gt := fr10 Gt (fun a ha => F a (fun hb => Dyt _ hb ha))
  have FR := fun a na => (F a (fun hb => na (hb))).trans (FR a na)
  refine e_bd (gn1_5 Gy) ?_
  obtain ⟨r30, e8, hm⟩ := q_b hm
  refine e_bd ((ca10 Gt).trans (l_X10_towards _ _ _ _ e8 Gt  )) ?_
  obtain ⟨y8, e8, hm⟩ := q_b hm
  obtain ⟨h32, e9, Gy, F⟩ := as1_5 Gy e8
  have Qy := (u_sl_P e8).trans Qy
  refine e_bd e9 ?_
  have Go := fr4 Go (fun a ha => F a (fun hb => Dyo _ hb ha))
  have Gt := fr10 Gt (fun a ha => F a (fun hb => Dyt _ hb ha))
  have FR := fun a na => (F a (fun hb => na (hb))).trans (FR a na)
  refine e_bd (gn1_5 Gy) ?_
  refine e_bd (gp1_0 Gy ((congrFun Qy 0).trans Eo)) ?_
  refine e_bd (gi4_0 Go) ?_
  obtain ⟨y9, e8, hm⟩ := q_b hm
  obtain ⟨h36, e9, Gy, F⟩ := as1_5 Gy e8
  have Qy := (u_sl_P e8).trans Qy
  refine e_bd e9 ?_
  have Go := fr4 Go (fun a ha => F a (fun hb => Dyo _ hb ha))
  have Gt := fr10 Gt (fun a ha => F a (fun hb => Dyt _ hb ha))
  have FR := fun a na => (F a (fun hb => na (hb))).trans (FR a na)
  refine e_bd (gn1_5 Gy) ?_
  refine e_bd (gn10_6 Gt) ?_
  refine e_eq (ai10_6 Gt _) hm (fun v39 hm => ?_)
  obtain ⟨y10, e8, hm⟩ := q_b hm
  obtain ⟨h40, e9, Gy, F⟩ := as1_5 Gy e8
  have Qy := (u_sl_P e8).trans Qy
  refine e_bd e9 ?_
  have Go := fr4 Go (fun a ha => F a (fun hb => Dyo _ hb ha))
  have Gt := fr10 Gt (fun a ha => F a (fun hb => Dyt _ hb ha))
  have FR := fun a na => (F a (fun hb => na (hb))).trans (FR a na)
  refine e_bd (gn1_5 Gy) ?_
  refine e_bd (gi10_1 Gt) ?_
  obtain ⟨y11, e8, hm⟩ := q_b hm
  obtain ⟨h43, e9, Gy, F⟩ := as1_5 Gy e8
  have Qy := (u_sl_P e8).trans Qy
  refine e_bd e9 ?_
  have Go := fr4 Go (fun a ha => F a (fun hb => Dyo _ hb ha))
  have Gt := fr10 Gt (fun a ha => F a (fun hb => Dyt _ hb ha))
  have FR := fun a na => (F a (fun hb => na (hb))).trans (FR a na)
  obtain rfl := Option.some.inj hm
  exact ⟨_, rfl, Gy, Qy, FR⟩
def t_X1_chooseEfforts_132 (k48 : g_S → g_S → g_S → g_S → Int32 → Option g_S) (y o b t : g_S) (x2 : Int32) (x3 : Int64) : Option g_S :=
  (t_ai 8 (g_A t 5) x2).bind fun v25 =>
  (u_si 8 y 3 x2 (((if (if x3 < ((if v25 < (3 : Int32) then v25 else (3 : Int32))).toInt64 then x3 else ((if v25 < (3 : Int32) then v25 else (3 : Int32))).toInt64) < (0 : Int64) then (0 : Int64) else (if x3 < ((if v25 < (3 : Int32) then v25 else (3 : Int32))).toInt64 then x3 else ((if v25 < (3 : Int32) then v25 else (3 : Int32))).toInt64))).toInt32)).bind fun y6 =>
  k48 y6 o b t ((x2 + (1 : Int32)))
set_option maxRecDepth 20000 in
theorem l_X1_chooseEfforts_132 (py po pb pt : Nat) (Dyo : ∀ a, f1 py a → f4 po a → False) (Dyb : ∀ a, f1 py a → f6 pb a → False) (Dyt : ∀ a, f1 py a → f10 pt a → False) (Dob : ∀ a, f4 po a → f6 pb a → False) (Dot : ∀ a, f4 po a → f10 pt a → False) (Dbt : ∀ a, f6 pb a → f10 pt a → False) {y' : g_S} {k48 : g_S → g_S → g_S → g_S → Int32 → Option g_S} {gk48 : q_H → Nat → Nat → Int32 → Option q_H} (hk48 : ∀ (h : q_H) (y o b t : g_S) (x2 : Int32), k48 y o b t x2 = some y' → g1 py y h → g4 po o h → g6 pb b h → g10 pt t h → g_P y 0 = some po → g_P y 1 = some pb → q_E (gk48 h py pt x2) (fun x => g1 py y' (x) ∧ g_P y' = g_P y ∧ ∀ a, ¬ (f1 py a) → (x) a = h a)) : ∀ (h : q_H) (y o b t : g_S) (x2 : Int32) (x3 : Int64), t_X1_chooseEfforts_132 k48 y o b t x2 x3 = some y' → g1 py y h → g4 po o h → g6 pb b h → g10 pt t h → g_P y 0 = some po → g_P y 1 = some pb → q_E (m_X1_chooseEfforts_132 gk48 h py pt x2 x3) (fun x => g1 py y' (x) ∧ g_P y' = g_P y ∧ ∀ a, ¬ (f1 py a) → (x) a = h a) := by
  intro h y o b t x2 x3 hm Gy Go Gb Gt Eo Eb
  unfold t_X1_chooseEfforts_132 at hm
  unfold m_X1_chooseEfforts_132
  have FR : ∀ a, ¬ (f1 py a) → h a = h a := fun _ _ => rfl
  have Qy : g_P y = g_P y := rfl
  refine e_bd (gn10_5 Gt) ?_
  refine e_eq (ai10_5 Gt _) hm (fun v25 hm => ?_)
  refine e_bd (gn1_3 Gy) ?_
  obtain ⟨y6, e8, hm⟩ := q_b hm
  obtain ⟨h27, e9, Gy, F⟩ := as1_3 Gy e8
  have Qy := (u_si_P e8).trans Qy
  refine e_bd e9 ?_
  have Go := fr4 Go (fun a ha => F a (fun hb => Dyo _ hb ha))
  have Gb := fr6 Gb (fun a ha => F a (fun hb => Dyb _ hb ha))
  have Gt := fr10 Gt (fun a ha => F a (fun hb => Dyt _ hb ha))
  have FR := fun a na => (F a (fun hb => na (hb))).trans (FR a na)
  obtain ⟨x9, e9, Gy, Ry, F⟩ := hk48 _ _ _ _ _ _ hm Gy Go Gb Gt ((congrFun Qy 0).trans Eo) ((congrFun Qy 1).trans Eb)
  exact ⟨x9, e9, Gy, Ry.trans Qy, fun a na => (F a na).trans (FR a na)⟩
def t_X1_chooseEfforts_102 (k48 : g_S → g_S → g_S → g_S → Int32 → Option g_S) (y o b t : g_S) (x2 : Int32) (x3 : Int64) : Option g_S :=
  if (lg_cmp x3 ((-1 : Int64))) = 0 then
    (t_X1_tellWords y o t x2).bind fun y3 =>
    (t_X6_saysTo b (g_row y3 5 11) (g_row y3 6 64)).bind fun (r33, k5) =>
    let y4 := g_sl y3 6 (g_L k5 0)
    t_X1_chooseEfforts_132 k48 y4 o b t x2 r33
  else
    t_X1_chooseEfforts_132 k48 y o b t x2 x3
set_option maxRecDepth 20000 in
theorem l_X1_chooseEfforts_102 (py po pb pt : Nat) (Dyo : ∀ a, f1 py a → f4 po a → False) (Dyb : ∀ a, f1 py a → f6 pb a → False) (Dyt : ∀ a, f1 py a → f10 pt a → False) (Dob : ∀ a, f4 po a → f6 pb a → False) (Dot : ∀ a, f4 po a → f10 pt a → False) (Dbt : ∀ a, f6 pb a → f10 pt a → False) {y' : g_S} {k48 : g_S → g_S → g_S → g_S → Int32 → Option g_S} {gk48 : q_H → Nat → Nat → Int32 → Option q_H} (hk48 : ∀ (h : q_H) (y o b t : g_S) (x2 : Int32), k48 y o b t x2 = some y' → g1 py y h → g4 po o h → g6 pb b h → g10 pt t h → g_P y 0 = some po → g_P y 1 = some pb → q_E (gk48 h py pt x2) (fun x => g1 py y' (x) ∧ g_P y' = g_P y ∧ ∀ a, ¬ (f1 py a) → (x) a = h a)) : ∀ (h : q_H) (y o b t : g_S) (x2 : Int32) (x3 : Int64), t_X1_chooseEfforts_102 k48 y o b t x2 x3 = some y' → g1 py y h → g4 po o h → g6 pb b h → g10 pt t h → g_P y 0 = some po → g_P y 1 = some pb → q_E (m_X1_chooseEfforts_102 gk48 h py pt x2 x3) (fun x => g1 py y' (x) ∧ g_P y' = g_P y ∧ ∀ a, ¬ (f1 py a) → (x) a = h a) := by
  intro h y o b t x2 x3 hm Gy Go Gb Gt Eo Eb
  unfold t_X1_chooseEfforts_102 at hm
  unfold m_X1_chooseEfforts_102
  have FR : ∀ a, ¬ (f1 py a) → h a = h a := fun _ _ => rfl
  have Qy : g_P y = g_P y := rfl
  refine e_if hm (fun _ hm => ?_) (fun _ hm => ?_)
  · obtain ⟨y3, e8, hm⟩ := q_b hm
    have Gc := Gy
    obtain ⟨h29, e9, Gy, Ry, F⟩ := l_X1_tellWords _ _ _ _ _ _ _ _ e8 Gy Go Gt ((congrFun Qy 0).trans Eo) Dyo Dyt Dot
    have Qy := Ry.trans Qy
    refine e_bd ((ca1 Gc).trans e9) ?_
    have Go := fr4 Go (fun a ha => F a (fun hb => Dyo _ hb ha))
    have Gb := fr6 Gb (fun a ha => F a (fun hb => Dyb _ hb ha))
    have Gt := fr10 Gt (fun a ha => F a (fun hb => Dyt _ hb ha))
    have FR := fun a na => (F a (fun hb => na (hb))).trans (FR a na)
    refine e_bd (gp1_1 Gy ((congrFun Qy 1).trans Eb)) ?_
    refine e_bd (gn1_5 Gy) ?_
    refine e_bd (gn1_6 Gy) ?_
    obtain ⟨⟨r33, k5⟩, e8, hm⟩ := q_b hm
    obtain ⟨⟨r9, h34⟩, e9, e7, K9, N9, F9⟩ := l_X6_saysTo _ _ _ _ _ _ _ e8 Gb (hv_5 Gy) (hv_6 Gy) (fun a x y => Dyb _ (by unfold f20 at y; unfold f1; omega) x) (fun a x y => Dyb _ (by unfold f20 at y; unfold f1; omega) x) (fun a x y => by unfold f20 at x y; omega)
    dsimp only at e7 K9 F9
    subst e7
    obtain ⟨Gy, F⟩ := hv_back Gy K9 N9 F9
    refine e_bd ((ca6 Gb).trans e9) ?_
    have Go := fr4 Go (fun a ha => F a (fun hb => Dyo _ hb ha))
    have Gb := fr6 Gb (fun a ha => F a (fun hb => Dyb _ hb ha))
    have Gt := fr10 Gt (fun a ha => F a (fun hb => Dyt _ hb ha))
    have FR := fun a na => (F a (fun hb => na (hb))).trans (FR a na)
    obtain ⟨x9, e9, Gy, Ry, F⟩ := l_X1_chooseEfforts_132 py po pb pt Dyo Dyb Dyt Dob Dot Dbt hk48 _ _ _ _ _ _ _ hm Gy Go Gb Gt ((congrFun Qy 0).trans Eo) ((congrFun Qy 1).trans Eb)
    exact ⟨x9, e9, Gy, Ry.trans Qy, fun a na => (F a na).trans (FR a na)⟩
  · obtain ⟨x9, e9, Gy, Ry, F⟩ := l_X1_chooseEfforts_132 py po pb pt Dyo Dyb Dyt Dob Dot Dbt hk48 _ _ _ _ _ _ _ hm Gy Go Gb Gt ((congrFun Qy 0).trans Eo) ((congrFun Qy 1).trans Eb)
    exact ⟨x9, e9, Gy, Ry.trans Qy, fun a na => (F a na).trans (FR a na)⟩
def t_X1_chooseEfforts_48  : Nat → g_S → g_S → g_S → g_S → Int32 → Option g_S
  | 0, _, _, _, _, _ => none
  | n + 1, y, o, b, t, x2 =>
    let v18 := g_I o 3
    if v18 ≤ x2 then
      some y
    else
      (t_ai 8 (g_A y 2) x2).bind fun v20 =>
      (t_X10_stands t x2).bind fun r21 =>
      if r21 = 0 then
        t_X1_chooseEfforts_132 (t_X1_chooseEfforts_48 n) y o b t x2 ((0 : Int64))
      else
        if (lg_cmp v20.toInt64 ((-1 : Int64))) = 0 then
          let v23 := g_P y 1
          if v23 = none then
            t_X1_chooseEfforts_132 (t_X1_chooseEfforts_48 n) y o b t x2 ((2 : Int64))
          else
            t_X1_chooseEfforts_102 (t_X1_chooseEfforts_48 n) y o b t x2 v20.toInt64
        else
          t_X1_chooseEfforts_102 (t_X1_chooseEfforts_48 n) y o b t x2 v20.toInt64
set_option maxRecDepth 20000 in
theorem l_X1_chooseEfforts_48 (py po pb pt : Nat) (Dyo : ∀ a, f1 py a → f4 po a → False) (Dyb : ∀ a, f1 py a → f6 pb a → False) (Dyt : ∀ a, f1 py a → f10 pt a → False) (Dob : ∀ a, f4 po a → f6 pb a → False) (Dot : ∀ a, f4 po a → f10 pt a → False) (Dbt : ∀ a, f6 pb a → f10 pt a → False) {y' : g_S} : ∀ (n : Nat) (h : q_H) (y o b t : g_S) (x2 : Int32), t_X1_chooseEfforts_48 n y o b t x2 = some y' → g1 py y h → g4 po o h → g6 pb b h → g10 pt t h → g_P y 0 = some po → g_P y 1 = some pb → q_E (m_X1_chooseEfforts_48 n h py pt x2) (fun x => g1 py y' (x) ∧ g_P y' = g_P y ∧ ∀ a, ¬ (f1 py a) → (x) a = h a) := by
  intro n
  induction n with
  | zero => intro h y o b t x2 hm Gy Go Gb Gt Eo Eb; cases hm
  | succ n ih =>
    intro h y o b t x2 hm Gy Go Gb Gt Eo Eb
    unfold t_X1_chooseEfforts_48 at hm
    unfold m_X1_chooseEfforts_48
    have FR : ∀ a, ¬ (f1 py a) → h a = h a := fun _ _ => rfl
    have Qy : g_P y = g_P y := rfl
    refine e_bd (gp1_0 Gy ((congrFun Qy 0).trans Eo)) ?_
    refine e_bd (gi4_3 Go) ?_
    refine e_if hm (fun _ hm => ?_) (fun _ hm => ?_)
    · obtain rfl := Option.some.inj hm
      exact ⟨_, rfl, Gy, Qy, FR⟩
    · refine e_bd (gn1_2 Gy) ?_
      refine e_eq (ai1_2 Gy _) hm (fun v20 hm => ?_)
      obtain ⟨r21, e8, hm⟩ := q_b hm
      refine e_bd ((ca10 Gt).trans (l_X10_stands _ _ _ _ e8 Gt  )) ?_
      refine e_if hm (fun _ hm => ?_) (fun _ hm => ?_)
      · obtain ⟨x9, e9, Gy, Ry, F⟩ := l_X1_chooseEfforts_132 py po pb pt Dyo Dyb Dyt Dob Dot Dbt ih _ _ _ _ _ _ _ hm Gy Go Gb Gt ((congrFun Qy 0).trans Eo) ((congrFun Qy 1).trans Eb)
        exact ⟨x9, e9, Gy, Ry.trans Qy, fun a na => (F a na).trans (FR a na)⟩
      · refine e_if hm (fun _ hm => ?_) (fun _ hm => ?_)
        · refine e_bd (go1_1 Gy) ?_
          refine e_if hm (fun _ hm => ?_) (fun _ hm => ?_)
          · obtain ⟨x9, e9, Gy, Ry, F⟩ := l_X1_chooseEfforts_132 py po pb pt Dyo Dyb Dyt Dob Dot Dbt ih _ _ _ _ _ _ _ hm Gy Go Gb Gt ((congrFun Qy 0).trans Eo) ((congrFun Qy 1).trans Eb)
            exact ⟨x9, e9, Gy, Ry.trans Qy, fun a na => (F a na).trans (FR a na)⟩
          · obtain ⟨x9, e9, Gy, Ry, F⟩ := l_X1_chooseEfforts_102 py po pb pt Dyo Dyb Dyt Dob Dot Dbt ih _ _ _ _ _ _ _ hm Gy Go Gb Gt ((congrFun Qy 0).trans Eo) ((congrFun Qy 1).trans Eb)
            exact ⟨x9, e9, Gy, Ry.trans Qy, fun a na => (F a na).trans (FR a na)⟩
        · obtain ⟨x9, e9, Gy, Ry, F⟩ := l_X1_chooseEfforts_102 py po pb pt Dyo Dyb Dyt Dob Dot Dbt ih _ _ _ _ _ _ _ hm Gy Go Gb Gt ((congrFun Qy 0).trans Eo) ((congrFun Qy 1).trans Eb)
          exact ⟨x9, e9, Gy, Ry.trans Qy, fun a na => (F a na).trans (FR a na)⟩
def t_X1_chooseEfforts (y o b t : g_S) : Option g_S :=
  let v2 := g_I t 2
  let v4 := g_I o 3
  (t_X10_setOnSide t ((0 : Int32)) v4).bind fun r5 =>
  (m_J6_bitCount_0f7a4 ((v2 &&& r5))).bind fun r7 =>
  (u_si 2 y 4 ((0 : Int32)) r7).bind fun y1 =>
  let v11 := g_I t 2
  (m_J6_bitCount_0f7a4 v11).bind fun r12 =>
  (t_ai 2 (g_A y1 4) ((0 : Int32))).bind fun v15 =>
  (u_si 2 y1 4 ((1 : Int32)) ((r12 - v15))).bind fun y2 =>
  t_X1_chooseEfforts_48 q_fu y2 o b t ((0 : Int32))
set_option maxRecDepth 20000 in
theorem l_X1_chooseEfforts (h : q_H) (py po pb pt : Nat) (y o b t : g_S) {y' : g_S} (hm : t_X1_chooseEfforts y o b t = some y') (Gy : g1 py y h) (Go : g4 po o h) (Gb : g6 pb b h) (Gt : g10 pt t h) (Eo : g_P y 0 = some po) (Eb : g_P y 1 = some pb) (Dyo : ∀ a, f1 py a → f4 po a → False) (Dyb : ∀ a, f1 py a → f6 pb a → False) (Dyt : ∀ a, f1 py a → f10 pt a → False) (Dob : ∀ a, f4 po a → f6 pb a → False) (Dot : ∀ a, f4 po a → f10 pt a → False) (Dbt : ∀ a, f6 pb a → f10 pt a → False) : q_E (m_X1_chooseEfforts h py pt) (fun x => g1 py y' (x) ∧ g_P y' = g_P y ∧ ∀ a, ¬ (f1 py a) → (x) a = h a) := by
  unfold t_X1_chooseEfforts at hm
  unfold m_X1_chooseEfforts
  have FR : ∀ a, ¬ (f1 py a) → h a = h a := fun _ _ => rfl
  have Qy : g_P y = g_P y := rfl
  refine e_bd (gn1_4 Gy) ?_
  refine e_bd (gi10_2 Gt) ?_
  refine e_bd (gp1_0 Gy ((congrFun Qy 0).trans Eo)) ?_
  refine e_bd (gi4_3 Go) ?_
  obtain ⟨r5, e8, hm⟩ := q_b hm
  refine e_bd ((ca10 Gt).trans (l_X10_setOnSide _ _ _ _ _ e8 Gt  )) ?_
  refine e_oo hm (fun r7 hm => ?_)
  obtain ⟨y1, e8, hm⟩ := q_b hm
  obtain ⟨h9, e9, Gy, F⟩ := as1_4 Gy e8
  have Qy := (u_si_P e8).trans Qy
  refine e_bd e9 ?_
  have Go := fr4 Go (fun a ha => F a (fun hb => Dyo _ hb ha))
  have Gb := fr6 Gb (fun a ha => F a (fun hb => Dyb _ hb ha))
  have Gt := fr10 Gt (fun a ha => F a (fun hb => Dyt _ hb ha))
  have FR := fun a na => (F a (fun hb => na (hb))).trans (FR a na)
  refine e_bd (gn1_4 Gy) ?_
  refine e_bd (gi10_2 Gt) ?_
  refine e_oo hm (fun r12 hm => ?_)
  refine e_bd (gn1_4 Gy) ?_
  refine e_eq (ai1_4 Gy _) hm (fun v15 hm => ?_)
  obtain ⟨y2, e8, hm⟩ := q_b hm
  obtain ⟨h16, e9, Gy, F⟩ := as1_4 Gy e8
  have Qy := (u_si_P e8).trans Qy
  refine e_bd e9 ?_
  have Go := fr4 Go (fun a ha => F a (fun hb => Dyo _ hb ha))
  have Gb := fr6 Gb (fun a ha => F a (fun hb => Dyb _ hb ha))
  have Gt := fr10 Gt (fun a ha => F a (fun hb => Dyt _ hb ha))
  have FR := fun a na => (F a (fun hb => na (hb))).trans (FR a na)
  obtain ⟨x9, e9, Gy, Ry, F⟩ := l_X1_chooseEfforts_48 py po pb pt Dyo Dyb Dyt Dob Dot Dbt _ _ _ _ _ _ _ hm Gy Go Gb Gt ((congrFun Qy 0).trans Eo) ((congrFun Qy 1).trans Eb)
  exact ⟨x9, e9, Gy, Ry.trans Qy, fun a na => (F a na).trans (FR a na)⟩
def t_X1_drawn_52 (k4 : g_S → g_S → g_S → Int32 → Int32 → Option Int32) (y o t : g_S) (x3 : Int32) (s0 : Int32) (s1 : Int32) : Option Int32 :=
  k4 y o t ((s1 + s0)) ((x3 + (1 : Int32)))
set_option maxRecDepth 20000 in
theorem l_X1_drawn_52 (py po pt : Nat) (Dyo : ∀ a, f1 py a → f4 po a → False) (Dyt : ∀ a, f1 py a → f10 pt a → False) (Dot : ∀ a, f4 po a → f10 pt a → False) {r : Int32} {k4 : g_S → g_S → g_S → Int32 → Int32 → Option Int32} {gk4 : q_H → Nat → Nat → Int32 → Int32 → Option Int32} (hk4 : ∀ (h : q_H) (y o t : g_S) (x2 : Int32) (x3 : Int32), k4 y o t x2 x3 = some r → g1 py y h → g4 po o h → g10 pt t h → g_P y 0 = some po → gk4 h py pt x2 x3 = some r) : ∀ (h : q_H) (y o t : g_S) (x3 : Int32) (s0 : Int32) (s1 : Int32), t_X1_drawn_52 k4 y o t x3 s0 s1 = some r → g1 py y h → g4 po o h → g10 pt t h → g_P y 0 = some po → m_X1_drawn_52 gk4 h py pt x3 s0 s1 = some r := by
  intro h y o t x3 s0 s1 hm Gy Go Gt Eo
  unfold t_X1_drawn_52 at hm
  unfold m_X1_drawn_52
  exact hk4 _ _ _ _ _ _ hm Gy Go Gt Eo
def t_X1_drawn_4  : Nat → g_S → g_S → g_S → Int32 → Int32 → Option Int32
  | 0, _, _, _, _, _ => none
  | n + 1, y, o, t, x2, x3 =>
    let v2 := g_I o 3
    if v2 ≤ x3 then
      some x2
    else
      (t_ai 8 (g_A o 5) x3).bind fun v5 =>
      (t_ai 8 (g_A y 3) x3).bind fun v7 =>
      (t_ai 8 (g_A t 3) x3).bind fun v9 =>
      if v9 = (1 : Int32) then
        t_X1_drawn_52 (t_X1_drawn_4 n) y o t x3 ((v5 * v7)) x2
      else
        t_X1_drawn_52 (t_X1_drawn_4 n) y o t x3 ((0 - (v5 * v7))) x2
set_option maxRecDepth 20000 in
theorem l_X1_drawn_4 (py po pt : Nat) (Dyo : ∀ a, f1 py a → f4 po a → False) (Dyt : ∀ a, f1 py a → f10 pt a → False) (Dot : ∀ a, f4 po a → f10 pt a → False) {r : Int32} : ∀ (n : Nat) (h : q_H) (y o t : g_S) (x2 : Int32) (x3 : Int32), t_X1_drawn_4 n y o t x2 x3 = some r → g1 py y h → g4 po o h → g10 pt t h → g_P y 0 = some po → m_X1_drawn_4 n h py pt x2 x3 = some r := by
  intro n
  induction n with
  | zero => intro h y o t x2 x3 hm Gy Go Gt Eo; cases hm
  | succ n ih =>
    intro h y o t x2 x3 hm Gy Go Gt Eo
    unfold t_X1_drawn_4 at hm
    unfold m_X1_drawn_4
    refine p_bd (gp1_0 Gy Eo) ?_
    refine p_bd (gi4_3 Go) ?_
    refine r_if _ _ hm (fun _ hm => ?_) (fun _ hm => ?_)
    · exact hm
    · refine p_bd (gp1_0 Gy Eo) ?_
      refine p_bd (gn4_5 Go) ?_
      refine p_eq (ai4_5 Go _) hm (fun v5 hm => ?_)
      refine p_bd (gn1_3 Gy) ?_
      refine p_eq (ai1_3 Gy _) hm (fun v7 hm => ?_)
      refine p_bd (gn10_3 Gt) ?_
      refine p_eq (ai10_3 Gt _) hm (fun v9 hm => ?_)
      refine r_if _ _ hm (fun _ hm => ?_) (fun _ hm => ?_)
      · exact l_X1_drawn_52 py po pt Dyo Dyt Dot ih _ _ _ _ _ _ _ hm Gy Go Gt Eo
      · exact l_X1_drawn_52 py po pt Dyo Dyt Dot ih _ _ _ _ _ _ _ hm Gy Go Gt Eo
def t_X1_drawn (y o t : g_S) : Option Int32 :=
  t_X1_drawn_4 q_fu y o t ((0 : Int32)) ((0 : Int32))
set_option maxRecDepth 20000 in
theorem l_X1_drawn (h : q_H) (py po pt : Nat) (y o t : g_S) {r : Int32} (hm : t_X1_drawn y o t = some r) (Gy : g1 py y h) (Go : g4 po o h) (Gt : g10 pt t h) (Eo : g_P y 0 = some po) (Dyo : ∀ a, f1 py a → f4 po a → False) (Dyt : ∀ a, f1 py a → f10 pt a → False) (Dot : ∀ a, f4 po a → f10 pt a → False) : m_X1_drawn h py pt = some r := by
  unfold t_X1_drawn at hm
  unfold m_X1_drawn
  exact l_X1_drawn_4 py po pt Dyo Dyt Dot _ _ _ _ _ _ _ hm Gy Go Gt Eo
def t_X1_tire_105 (k2 : g_S → g_S → g_S → Int32 → Option g_S) (y o t : g_S) (x2 : Int32) : Option g_S :=
  k2 y o t ((x2 + (1 : Int32)))
set_option maxRecDepth 20000 in
theorem l_X1_tire_105 (py po pt : Nat) (Dyo : ∀ a, f1 py a → f4 po a → False) (Dyt : ∀ a, f1 py a → f10 pt a → False) (Dot : ∀ a, f4 po a → f10 pt a → False) {t' : g_S} {k2 : g_S → g_S → g_S → Int32 → Option g_S} {gk2 : q_H → Nat → Nat → Int32 → Option q_H} (hk2 : ∀ (h : q_H) (y o t : g_S) (x2 : Int32), k2 y o t x2 = some t' → g1 py y h → g4 po o h → g10 pt t h → g_P y 0 = some po → q_E (gk2 h py pt x2) (fun x => g10 pt t' (x) ∧ ∀ a, ¬ (f10 pt a) → (x) a = h a)) : ∀ (h : q_H) (y o t : g_S) (x2 : Int32), t_X1_tire_105 k2 y o t x2 = some t' → g1 py y h → g4 po o h → g10 pt t h → g_P y 0 = some po → q_E (m_X1_tire_105 gk2 h py pt x2) (fun x => g10 pt t' (x) ∧ ∀ a, ¬ (f10 pt a) → (x) a = h a) := by
  intro h y o t x2 hm Gy Go Gt Eo
  unfold t_X1_tire_105 at hm
  unfold m_X1_tire_105
  have FR : ∀ a, ¬ (f10 pt a) → h a = h a := fun _ _ => rfl
  have Qy : g_P y = g_P y := rfl
  obtain ⟨x9, e9, Gt, F⟩ := hk2 _ _ _ _ _ hm Gy Go Gt ((congrFun Qy 0).trans Eo)
  exact ⟨x9, e9, Gt, fun a na => (F a na).trans (FR a na)⟩
def t_X1_tire_2  : Nat → g_S → g_S → g_S → Int32 → Option g_S
  | 0, _, _, _, _ => none
  | n + 1, y, o, t, x2 =>
    let v2 := g_I o 3
    if v2 ≤ x2 then
      some t
    else
      (t_ai 8 (g_A t 5) x2).bind fun v4 =>
      (t_ai 8 (g_A y 3) x2).bind fun v6 =>
      if v6 ≤ 0 then
        (t_ai 8 (g_A o 6) x2).bind fun v9 =>
        if v9 ≤ v4 then
          t_X1_tire_105 (t_X1_tire_2 n) y o t x2
        else
          (t_ai 8 (g_A o 6) x2).bind fun v13 =>
          (u_si 8 t 5 x2 ((if (v4 + (2 : Int32)) < v13 then (v4 + (2 : Int32)) else v13))).bind fun t1 =>
          t_X1_tire_105 (t_X1_tire_2 n) y o t1 x2
      else
        (t_ai 8 (g_A y 3) x2).bind fun v17 =>
        (u_si 8 t 5 x2 ((v4 - v17))).bind fun t2 =>
        (t_ai 8 (g_A t2 6) x2).bind fun v21 =>
        (t_ai 8 (g_A y 3) x2).bind fun v23 =>
        (u_si 8 t2 6 x2 ((if (v21 + v23) < (999 : Int32) then (v21 + v23) else (999 : Int32)))).bind fun t3 =>
        t_X1_tire_105 (t_X1_tire_2 n) y o t3 x2
set_option maxRecDepth 20000 in
theorem l_X1_tire_2 (py po pt : Nat) (Dyo : ∀ a, f1 py a → f4 po a → False) (Dyt : ∀ a, f1 py a → f10 pt a → False) (Dot : ∀ a, f4 po a → f10 pt a → False) {t' : g_S} : ∀ (n : Nat) (h : q_H) (y o t : g_S) (x2 : Int32), t_X1_tire_2 n y o t x2 = some t' → g1 py y h → g4 po o h → g10 pt t h → g_P y 0 = some po → q_E (m_X1_tire_2 n h py pt x2) (fun x => g10 pt t' (x) ∧ ∀ a, ¬ (f10 pt a) → (x) a = h a) := by
  intro n
  induction n with
  | zero => intro h y o t x2 hm Gy Go Gt Eo; cases hm
  | succ n ih =>
    intro h y o t x2 hm Gy Go Gt Eo
    unfold t_X1_tire_2 at hm
    unfold m_X1_tire_2
    have FR : ∀ a, ¬ (f10 pt a) → h a = h a := fun _ _ => rfl
    have Qy : g_P y = g_P y := rfl
    refine e_bd (gp1_0 Gy ((congrFun Qy 0).trans Eo)) ?_
    refine e_bd (gi4_3 Go) ?_
    refine e_if hm (fun _ hm => ?_) (fun _ hm => ?_)
    · obtain rfl := Option.some.inj hm
      exact ⟨_, rfl, Gt, FR⟩
    · refine e_bd (gn10_5 Gt) ?_
      refine e_eq (ai10_5 Gt _) hm (fun v4 hm => ?_)
      refine e_bd (gn1_3 Gy) ?_
      refine e_eq (ai1_3 Gy _) hm (fun v6 hm => ?_)
      refine e_if hm (fun _ hm => ?_) (fun _ hm => ?_)
      · refine e_bd (gp1_0 Gy ((congrFun Qy 0).trans Eo)) ?_
        refine e_bd (gn4_6 Go) ?_
        refine e_eq (ai4_6 Go _) hm (fun v9 hm => ?_)
        refine e_if hm (fun _ hm => ?_) (fun _ hm => ?_)
        · obtain ⟨x9, e9, Gt, F⟩ := l_X1_tire_105 py po pt Dyo Dyt Dot ih _ _ _ _ _ hm Gy Go Gt ((congrFun Qy 0).trans Eo)
          exact ⟨x9, e9, Gt, fun a na => (F a na).trans (FR a na)⟩
        · refine e_bd (gn10_5 Gt) ?_
          refine e_bd (gp1_0 Gy ((congrFun Qy 0).trans Eo)) ?_
          refine e_bd (gn4_6 Go) ?_
          refine e_eq (ai4_6 Go _) hm (fun v13 hm => ?_)
          obtain ⟨t1, e8, hm⟩ := q_b hm
          obtain ⟨h14, e9, Gt, F⟩ := as10_5 Gt e8
          refine e_bd e9 ?_
          have Gy := fr1 Gy (fun a ha => F a (fun hb => Dyt _ ha hb))
          have Go := fr4 Go (fun a ha => F a (fun hb => Dot _ ha hb))
          have FR := fun a na => (F a (fun hb => na (hb))).trans (FR a na)
          obtain ⟨x9, e9, Gt, F⟩ := l_X1_tire_105 py po pt Dyo Dyt Dot ih _ _ _ _ _ hm Gy Go Gt ((congrFun Qy 0).trans Eo)
          exact ⟨x9, e9, Gt, fun a na => (F a na).trans (FR a na)⟩
      · refine e_bd (gn10_5 Gt) ?_
        refine e_bd (gn1_3 Gy) ?_
        refine e_eq (ai1_3 Gy _) hm (fun v17 hm => ?_)
        obtain ⟨t2, e8, hm⟩ := q_b hm
        obtain ⟨h18, e9, Gt, F⟩ := as10_5 Gt e8
        refine e_bd e9 ?_
        have Gy := fr1 Gy (fun a ha => F a (fun hb => Dyt _ ha hb))
        have Go := fr4 Go (fun a ha => F a (fun hb => Dot _ ha hb))
        have FR := fun a na => (F a (fun hb => na (hb))).trans (FR a na)
        refine e_bd (gn10_6 Gt) ?_
        refine e_bd (gn10_6 Gt) ?_
        refine e_eq (ai10_6 Gt _) hm (fun v21 hm => ?_)
        refine e_bd (gn1_3 Gy) ?_
        refine e_eq (ai1_3 Gy _) hm (fun v23 hm => ?_)
        obtain ⟨t3, e8, hm⟩ := q_b hm
        obtain ⟨h24, e9, Gt, F⟩ := as10_6 Gt e8
        refine e_bd e9 ?_
        have Gy := fr1 Gy (fun a ha => F a (fun hb => Dyt _ ha hb))
        have Go := fr4 Go (fun a ha => F a (fun hb => Dot _ ha hb))
        have FR := fun a na => (F a (fun hb => na (hb))).trans (FR a na)
        obtain ⟨x9, e9, Gt, F⟩ := l_X1_tire_105 py po pt Dyo Dyt Dot ih _ _ _ _ _ hm Gy Go Gt ((congrFun Qy 0).trans Eo)
        exact ⟨x9, e9, Gt, fun a na => (F a na).trans (FR a na)⟩
def t_X1_tire (y o t : g_S) : Option g_S :=
  t_X1_tire_2 q_fu y o t ((0 : Int32))
set_option maxRecDepth 20000 in
theorem l_X1_tire (h : q_H) (py po pt : Nat) (y o t : g_S) {t' : g_S} (hm : t_X1_tire y o t = some t') (Gy : g1 py y h) (Go : g4 po o h) (Gt : g10 pt t h) (Eo : g_P y 0 = some po) (Dyo : ∀ a, f1 py a → f4 po a → False) (Dyt : ∀ a, f1 py a → f10 pt a → False) (Dot : ∀ a, f4 po a → f10 pt a → False) : q_E (m_X1_tire h py pt) (fun x => g10 pt t' (x) ∧ ∀ a, ¬ (f10 pt a) → (x) a = h a) := by
  unfold t_X1_tire at hm
  unfold m_X1_tire
  have FR : ∀ a, ¬ (f10 pt a) → h a = h a := fun _ _ => rfl
  have Qy : g_P y = g_P y := rfl
  obtain ⟨x9, e9, Gt, F⟩ := l_X1_tire_2 py po pt Dyo Dyt Dot _ _ _ _ _ _ hm Gy Go Gt ((congrFun Qy 0).trans Eo)
  exact ⟨x9, e9, Gt, fun a na => (F a na).trans (FR a na)⟩
def t_X1_slipped_115 (k38 : g_S → g_S → g_S → Int32 → Int32 → Int32 → Int32 → Option Int32) (y o t : g_S) (x3 : Int32) (x4 : Int32) (x5 : Int32) (x6 : Int32) : Option Int32 :=
  k38 y o t x3 x4 x5 ((x6 + (1 : Int32)))
set_option maxRecDepth 20000 in
theorem l_X1_slipped_115 (py po pt : Nat) (Dyo : ∀ a, f1 py a → f4 po a → False) (Dyt : ∀ a, f1 py a → f10 pt a → False) (Dot : ∀ a, f4 po a → f10 pt a → False) {r : Int32} {k38 : g_S → g_S → g_S → Int32 → Int32 → Int32 → Int32 → Option Int32} {gk38 : q_H → Nat → Nat → Int32 → Int32 → Int32 → Int32 → Option Int32} (hk38 : ∀ (h : q_H) (y o t : g_S) (x3 : Int32) (x4 : Int32) (x5 : Int32) (x6 : Int32), k38 y o t x3 x4 x5 x6 = some r → g1 py y h → g4 po o h → g10 pt t h → g_P y 0 = some po → gk38 h py pt x3 x4 x5 x6 = some r) : ∀ (h : q_H) (y o t : g_S) (x3 : Int32) (x4 : Int32) (x5 : Int32) (x6 : Int32), t_X1_slipped_115 k38 y o t x3 x4 x5 x6 = some r → g1 py y h → g4 po o h → g10 pt t h → g_P y 0 = some po → m_X1_slipped_115 gk38 h py pt x3 x4 x5 x6 = some r := by
  intro h y o t x3 x4 x5 x6 hm Gy Go Gt Eo
  unfold t_X1_slipped_115 at hm
  unfold m_X1_slipped_115
  exact hk38 _ _ _ _ _ _ _ _ hm Gy Go Gt Eo
def t_X1_slipped_111 (k38 : g_S → g_S → g_S → Int32 → Int32 → Int32 → Int32 → Option Int32) (y o t : g_S) (x3 : Int32) (x4 : Int32) (x6 : Int32) : Option Int32 :=
  t_X1_slipped_115 k38 y o t x3 x4 x6 x6
set_option maxRecDepth 20000 in
theorem l_X1_slipped_111 (py po pt : Nat) (Dyo : ∀ a, f1 py a → f4 po a → False) (Dyt : ∀ a, f1 py a → f10 pt a → False) (Dot : ∀ a, f4 po a → f10 pt a → False) {r : Int32} {k38 : g_S → g_S → g_S → Int32 → Int32 → Int32 → Int32 → Option Int32} {gk38 : q_H → Nat → Nat → Int32 → Int32 → Int32 → Int32 → Option Int32} (hk38 : ∀ (h : q_H) (y o t : g_S) (x3 : Int32) (x4 : Int32) (x5 : Int32) (x6 : Int32), k38 y o t x3 x4 x5 x6 = some r → g1 py y h → g4 po o h → g10 pt t h → g_P y 0 = some po → gk38 h py pt x3 x4 x5 x6 = some r) : ∀ (h : q_H) (y o t : g_S) (x3 : Int32) (x4 : Int32) (x6 : Int32), t_X1_slipped_111 k38 y o t x3 x4 x6 = some r → g1 py y h → g4 po o h → g10 pt t h → g_P y 0 = some po → m_X1_slipped_111 gk38 h py pt x3 x4 x6 = some r := by
  intro h y o t x3 x4 x6 hm Gy Go Gt Eo
  unfold t_X1_slipped_111 at hm
  unfold m_X1_slipped_111
  exact l_X1_slipped_115 py po pt Dyo Dyt Dot hk38 _ _ _ _ _ _ _ _ hm Gy Go Gt Eo
def t_X1_slipped_81 (k38 : g_S → g_S → g_S → Int32 → Int32 → Int32 → Int32 → Option Int32) (y o t : g_S) (x3 : Int32) (x4 : Int32) (x5 : Int32) (x6 : Int32) (s0 : Int32) : Option Int32 :=
  if s0 = 0 then
    t_X1_slipped_115 k38 y o t x3 x4 x5 x6
  else
    if x5 = (-1 : Int32) then
      t_X1_slipped_111 k38 y o t x3 x4 x6
    else
      (t_ai 8 (g_A t 4) x6).bind fun v11 =>
      (t_ai 8 (g_A t 4) x5).bind fun v13 =>
      if v13 ≤ v11 then
        t_X1_slipped_115 k38 y o t x3 x4 x5 x6
      else
        t_X1_slipped_111 k38 y o t x3 x4 x6
set_option maxRecDepth 20000 in
theorem l_X1_slipped_81 (py po pt : Nat) (Dyo : ∀ a, f1 py a → f4 po a → False) (Dyt : ∀ a, f1 py a → f10 pt a → False) (Dot : ∀ a, f4 po a → f10 pt a → False) {r : Int32} {k38 : g_S → g_S → g_S → Int32 → Int32 → Int32 → Int32 → Option Int32} {gk38 : q_H → Nat → Nat → Int32 → Int32 → Int32 → Int32 → Option Int32} (hk38 : ∀ (h : q_H) (y o t : g_S) (x3 : Int32) (x4 : Int32) (x5 : Int32) (x6 : Int32), k38 y o t x3 x4 x5 x6 = some r → g1 py y h → g4 po o h → g10 pt t h → g_P y 0 = some po → gk38 h py pt x3 x4 x5 x6 = some r) : ∀ (h : q_H) (y o t : g_S) (x3 : Int32) (x4 : Int32) (x5 : Int32) (x6 : Int32) (s0 : Int32), t_X1_slipped_81 k38 y o t x3 x4 x5 x6 s0 = some r → g1 py y h → g4 po o h → g10 pt t h → g_P y 0 = some po → m_X1_slipped_81 gk38 h py pt x3 x4 x5 x6 s0 = some r := by
  intro h y o t x3 x4 x5 x6 s0 hm Gy Go Gt Eo
  unfold t_X1_slipped_81 at hm
  unfold m_X1_slipped_81
  refine r_if _ _ hm (fun _ hm => ?_) (fun _ hm => ?_)
  · exact l_X1_slipped_115 py po pt Dyo Dyt Dot hk38 _ _ _ _ _ _ _ _ hm Gy Go Gt Eo
  · refine r_if _ _ hm (fun _ hm => ?_) (fun _ hm => ?_)
    · exact l_X1_slipped_111 py po pt Dyo Dyt Dot hk38 _ _ _ _ _ _ _ hm Gy Go Gt Eo
    · refine p_bd (gn10_4 Gt) ?_
      refine p_eq (ai10_4 Gt _) hm (fun v11 hm => ?_)
      refine p_bd (gn10_4 Gt) ?_
      refine p_eq (ai10_4 Gt _) hm (fun v13 hm => ?_)
      refine r_if _ _ hm (fun _ hm => ?_) (fun _ hm => ?_)
      · exact l_X1_slipped_115 py po pt Dyo Dyt Dot hk38 _ _ _ _ _ _ _ _ hm Gy Go Gt Eo
      · exact l_X1_slipped_111 py po pt Dyo Dyt Dot hk38 _ _ _ _ _ _ _ hm Gy Go Gt Eo
def t_X1_slipped_80 (k38 : g_S → g_S → g_S → Int32 → Int32 → Int32 → Int32 → Option Int32) (y o t : g_S) (x3 : Int32) (x4 : Int32) (x5 : Int32) (x6 : Int32) : Option Int32 :=
  t_X1_slipped_81 k38 y o t x3 x4 x5 x6 ((0 : Int32))
set_option maxRecDepth 20000 in
theorem l_X1_slipped_80 (py po pt : Nat) (Dyo : ∀ a, f1 py a → f4 po a → False) (Dyt : ∀ a, f1 py a → f10 pt a → False) (Dot : ∀ a, f4 po a → f10 pt a → False) {r : Int32} {k38 : g_S → g_S → g_S → Int32 → Int32 → Int32 → Int32 → Option Int32} {gk38 : q_H → Nat → Nat → Int32 → Int32 → Int32 → Int32 → Option Int32} (hk38 : ∀ (h : q_H) (y o t : g_S) (x3 : Int32) (x4 : Int32) (x5 : Int32) (x6 : Int32), k38 y o t x3 x4 x5 x6 = some r → g1 py y h → g4 po o h → g10 pt t h → g_P y 0 = some po → gk38 h py pt x3 x4 x5 x6 = some r) : ∀ (h : q_H) (y o t : g_S) (x3 : Int32) (x4 : Int32) (x5 : Int32) (x6 : Int32), t_X1_slipped_80 k38 y o t x3 x4 x5 x6 = some r → g1 py y h → g4 po o h → g10 pt t h → g_P y 0 = some po → m_X1_slipped_80 gk38 h py pt x3 x4 x5 x6 = some r := by
  intro h y o t x3 x4 x5 x6 hm Gy Go Gt Eo
  unfold t_X1_slipped_80 at hm
  unfold m_X1_slipped_80
  exact l_X1_slipped_81 py po pt Dyo Dyt Dot hk38 _ _ _ _ _ _ _ _ _ hm Gy Go Gt Eo
def t_X1_slipped_38  : Nat → g_S → g_S → g_S → Int32 → Int32 → Int32 → Int32 → Option Int32
  | 0, _, _, _, _, _, _, _ => none
  | n + 1, y, o, t, x3, x4, x5, x6 =>
    let v4 := g_I o 3
    if v4 ≤ x6 then
      if x5 = (-1 : Int32) then
        some ((0 : Int32))
      else
        some (((1 : Int32) <<< (x5 &&& 31)))
    else
      (t_ai 8 (g_A t 3) x6).bind fun v6 =>
      if v6 = x3 then
        (t_ai 8 (g_A o 7) x6).bind fun v9 =>
        if x4 ≤ v9 then
          t_X1_slipped_80 (t_X1_slipped_38 n) y o t x3 x4 x5 x6
        else
          t_X1_slipped_81 (t_X1_slipped_38 n) y o t x3 x4 x5 x6 ((1 : Int32))
      else
        t_X1_slipped_80 (t_X1_slipped_38 n) y o t x3 x4 x5 x6
set_option maxRecDepth 20000 in
theorem l_X1_slipped_38 (py po pt : Nat) (Dyo : ∀ a, f1 py a → f4 po a → False) (Dyt : ∀ a, f1 py a → f10 pt a → False) (Dot : ∀ a, f4 po a → f10 pt a → False) {r : Int32} : ∀ (n : Nat) (h : q_H) (y o t : g_S) (x3 : Int32) (x4 : Int32) (x5 : Int32) (x6 : Int32), t_X1_slipped_38 n y o t x3 x4 x5 x6 = some r → g1 py y h → g4 po o h → g10 pt t h → g_P y 0 = some po → m_X1_slipped_38 n h py pt x3 x4 x5 x6 = some r := by
  intro n
  induction n with
  | zero => intro h y o t x3 x4 x5 x6 hm Gy Go Gt Eo; cases hm
  | succ n ih =>
    intro h y o t x3 x4 x5 x6 hm Gy Go Gt Eo
    unfold t_X1_slipped_38 at hm
    unfold m_X1_slipped_38
    refine p_bd (gp1_0 Gy Eo) ?_
    refine p_bd (gi4_3 Go) ?_
    refine r_if _ _ hm (fun _ hm => ?_) (fun _ hm => ?_)
    · refine r_if _ _ hm (fun _ hm => ?_) (fun _ hm => ?_)
      · exact hm
      · exact hm
    · refine p_bd (gn10_3 Gt) ?_
      refine p_eq (ai10_3 Gt _) hm (fun v6 hm => ?_)
      refine r_if _ _ hm (fun _ hm => ?_) (fun _ hm => ?_)
      · refine p_bd (gp1_0 Gy Eo) ?_
        refine p_bd (gn4_7 Go) ?_
        refine p_eq (ai4_7 Go _) hm (fun v9 hm => ?_)
        refine r_if _ _ hm (fun _ hm => ?_) (fun _ hm => ?_)
        · exact l_X1_slipped_80 py po pt Dyo Dyt Dot ih _ _ _ _ _ _ _ _ hm Gy Go Gt Eo
        · exact l_X1_slipped_81 py po pt Dyo Dyt Dot ih _ _ _ _ _ _ _ _ _ hm Gy Go Gt Eo
      · exact l_X1_slipped_80 py po pt Dyo Dyt Dot ih _ _ _ _ _ _ _ _ hm Gy Go Gt Eo
def t_X1_slipped_15 (y o t : g_S) (x2 : Int32) (s0 : Int32) : Option Int32 :=
  let v2 := g_I o 1
  t_X1_slipped_38 q_fu y o t s0 ((((if 0 ≤ x2 then x2 else 0 - x2) + v2) - (5 : Int32))) ((-1 : Int32)) ((0 : Int32))
set_option maxRecDepth 20000 in
theorem l_X1_slipped_15 (py po pt : Nat) (Dyo : ∀ a, f1 py a → f4 po a → False) (Dyt : ∀ a, f1 py a → f10 pt a → False) (Dot : ∀ a, f4 po a → f10 pt a → False) {r : Int32} : ∀ (h : q_H) (y o t : g_S) (x2 : Int32) (s0 : Int32), t_X1_slipped_15 y o t x2 s0 = some r → g1 py y h → g4 po o h → g10 pt t h → g_P y 0 = some po → m_X1_slipped_15 h py pt x2 s0 = some r := by
  intro h y o t x2 s0 hm Gy Go Gt Eo
  unfold t_X1_slipped_15 at hm
  unfold m_X1_slipped_15
  refine p_bd (gp1_0 Gy Eo) ?_
  refine p_bd (gi4_1 Go) ?_
  exact l_X1_slipped_38 py po pt Dyo Dyt Dot _ _ _ _ _ _ _ _ _ hm Gy Go Gt Eo
def t_X1_slipped (y o t : g_S) (a2 : Int32) : Option Int32 :=
  if a2 = 0 then
    some ((0 : Int32))
  else
    if a2 ≤ 0 then
      t_X1_slipped_15 y o t a2 ((1 : Int32))
    else
      t_X1_slipped_15 y o t a2 ((0 : Int32))
set_option maxRecDepth 20000 in
theorem l_X1_slipped (h : q_H) (py po pt : Nat) (y o t : g_S) (a2 : Int32) {r : Int32} (hm : t_X1_slipped y o t a2 = some r) (Gy : g1 py y h) (Go : g4 po o h) (Gt : g10 pt t h) (Eo : g_P y 0 = some po) (Dyo : ∀ a, f1 py a → f4 po a → False) (Dyt : ∀ a, f1 py a → f10 pt a → False) (Dot : ∀ a, f4 po a → f10 pt a → False) : m_X1_slipped h py pt a2 = some r := by
  unfold t_X1_slipped at hm
  unfold m_X1_slipped
  refine r_if _ _ hm (fun _ hm => ?_) (fun _ hm => ?_)
  · exact hm
  · refine r_if _ _ hm (fun _ hm => ?_) (fun _ hm => ?_)
    · exact l_X1_slipped_15 py po pt Dyo Dyt Dot _ _ _ _ _ _ hm Gy Go Gt Eo
    · exact l_X1_slipped_15 py po pt Dyo Dyt Dot _ _ _ _ _ _ hm Gy Go Gt Eo
def t_X1_heaveOn_89 (k2 : g_S → g_S → g_S → g_S → Int32 → Int32 → Option (g_S × g_S)) (y o b t : g_S) (x2 : Int32) (x3 : Int32) : Option (g_S × g_S) :=
  let v20 := g_I t 1
  let t5 := g_si t 1 (v20 + (1 : Int32))
  k2 y o b t5 x2 ((x3 + (1 : Int32)))
set_option maxRecDepth 20000 in
theorem l_X1_heaveOn_89 (py po pb pt : Nat) (Dyo : ∀ a, f1 py a → f4 po a → False) (Dyb : ∀ a, f1 py a → f6 pb a → False) (Dyt : ∀ a, f1 py a → f10 pt a → False) (Dob : ∀ a, f4 po a → f6 pb a → False) (Dot : ∀ a, f4 po a → f10 pt a → False) (Dbt : ∀ a, f6 pb a → f10 pt a → False) {y' t' : g_S} {k2 : g_S → g_S → g_S → g_S → Int32 → Int32 → Option (g_S × g_S)} {gk2 : q_H → Nat → Nat → Int32 → Int32 → Option q_H} (hk2 : ∀ (h : q_H) (y o b t : g_S) (x2 : Int32) (x3 : Int32), k2 y o b t x2 x3 = some (y', t') → g1 py y h → g4 po o h → g6 pb b h → g10 pt t h → g_P y 0 = some po → g_P y 1 = some pb → q_E (gk2 h py pt x2 x3) (fun x => g1 py y' (x) ∧ g10 pt t' (x) ∧ g_P y' = g_P y ∧ ∀ a, ¬ (f1 py a ∨ f10 pt a) → (x) a = h a)) : ∀ (h : q_H) (y o b t : g_S) (x2 : Int32) (x3 : Int32), t_X1_heaveOn_89 k2 y o b t x2 x3 = some (y', t') → g1 py y h → g4 po o h → g6 pb b h → g10 pt t h → g_P y 0 = some po → g_P y 1 = some pb → q_E (m_X1_heaveOn_89 gk2 h py pt x2 x3) (fun x => g1 py y' (x) ∧ g10 pt t' (x) ∧ g_P y' = g_P y ∧ ∀ a, ¬ (f1 py a ∨ f10 pt a) → (x) a = h a) := by
  intro h y o b t x2 x3 hm Gy Go Gb Gt Eo Eb
  unfold t_X1_heaveOn_89 at hm
  unfold m_X1_heaveOn_89
  have FR : ∀ a, ¬ (f1 py a ∨ f10 pt a) → h a = h a := fun _ _ => rfl
  have Qy : g_P y = g_P y := rfl
  refine e_bd (gi10_1 Gt) ?_
  refine e_pi (pi10_1 _ Gt) (fun h21 Gt F => ?_)
  have Gy := fr1 Gy (fun a ha => F a (fun hb => Dyt _ ha hb))
  have Go := fr4 Go (fun a ha => F a (fun hb => Dot _ ha hb))
  have Gb := fr6 Gb (fun a ha => F a (fun hb => Dbt _ ha hb))
  have FR := fun a na => (F a (fun hb => na (Or.inr (hb)))).trans (FR a na)
  obtain ⟨x9, e9, Gy, Gt, Ry, F⟩ := hk2 _ _ _ _ _ _ _ hm Gy Go Gb Gt ((congrFun Qy 0).trans Eo) ((congrFun Qy 1).trans Eb)
  exact ⟨x9, e9, Gy, Gt, Ry.trans Qy, fun a na => (F a na).trans (FR a na)⟩
def t_X1_heaveOn_2  : Nat → g_S → g_S → g_S → g_S → Int32 → Int32 → Option (g_S × g_S)
  | 0, _, _, _, _, _, _ => none
  | n + 1, y, o, b, t, x2, x3 =>
    if x2 ≤ x3 then
      some (y, t)
    else
      let v1 := g_P y 0
      if v1 = none then
        some (y, t)
      else
        let v3 := g_I o 0
        (t_X10_isOver t v3).bind fun r4 =>
        if r4 = 0 then
          (t_X1_chooseEfforts y o b t).bind fun y1 =>
          (t_X1_drawn y1 o t).bind fun r8 =>
          (t_X1_tire y1 o t).bind fun t2 =>
          let v12 := g_I t2 0
          let t3 := g_si t2 0 (if (-99 : Int32) < (if (v12 + (r8 / (4 : Int32))) < (99 : Int32) then (v12 + (r8 / (4 : Int32))) else (99 : Int32)) then (if (v12 + (r8 / (4 : Int32))) < (99 : Int32) then (v12 + (r8 / (4 : Int32))) else (99 : Int32)) else (-99 : Int32))
          (t_X4_everyone o).bind fun r15 =>
          (t_X1_slipped y1 o t3 ((r8 / (4 : Int32)))).bind fun r17 =>
          let t4 := g_si t3 2 (r15 &&& (r17 ^^^ (-1 : Int32)))
          t_X1_heaveOn_89 (t_X1_heaveOn_2 n) y1 o b t4 x2 x3
        else
          t_X1_heaveOn_89 (t_X1_heaveOn_2 n) y o b t x2 x3
set_option maxRecDepth 20000 in
theorem l_X1_heaveOn_2 (py po pb pt : Nat) (Dyo : ∀ a, f1 py a → f4 po a → False) (Dyb : ∀ a, f1 py a → f6 pb a → False) (Dyt : ∀ a, f1 py a → f10 pt a → False) (Dob : ∀ a, f4 po a → f6 pb a → False) (Dot : ∀ a, f4 po a → f10 pt a → False) (Dbt : ∀ a, f6 pb a → f10 pt a → False) {y' t' : g_S} : ∀ (n : Nat) (h : q_H) (y o b t : g_S) (x2 : Int32) (x3 : Int32), t_X1_heaveOn_2 n y o b t x2 x3 = some (y', t') → g1 py y h → g4 po o h → g6 pb b h → g10 pt t h → g_P y 0 = some po → g_P y 1 = some pb → q_E (m_X1_heaveOn_2 n h py pt x2 x3) (fun x => g1 py y' (x) ∧ g10 pt t' (x) ∧ g_P y' = g_P y ∧ ∀ a, ¬ (f1 py a ∨ f10 pt a) → (x) a = h a) := by
  intro n
  induction n with
  | zero => intro h y o b t x2 x3 hm Gy Go Gb Gt Eo Eb; cases hm
  | succ n ih =>
    intro h y o b t x2 x3 hm Gy Go Gb Gt Eo Eb
    unfold t_X1_heaveOn_2 at hm
    unfold m_X1_heaveOn_2
    have FR : ∀ a, ¬ (f1 py a ∨ f10 pt a) → h a = h a := fun _ _ => rfl
    have Qy : g_P y = g_P y := rfl
    refine e_if hm (fun _ hm => ?_) (fun _ hm => ?_)
    · have hq0 := Option.some.inj hm
      clear hm
      obtain ⟨rfl, rfl⟩ := Prod.mk.inj hq0
      exact ⟨_, rfl, Gy, Gt, Qy, FR⟩
    · refine e_bd (go1_0 Gy) ?_
      refine e_if hm (fun _ hm => ?_) (fun _ hm => ?_)
      · have hq0 := Option.some.inj hm
        clear hm
        obtain ⟨rfl, rfl⟩ := Prod.mk.inj hq0
        exact ⟨_, rfl, Gy, Gt, Qy, FR⟩
      · refine e_bd (gp1_0 Gy ((congrFun Qy 0).trans Eo)) ?_
        refine e_bd (gi4_0 Go) ?_
        obtain ⟨r4, e8, hm⟩ := q_b hm
        refine e_bd ((ca10 Gt).trans (l_X10_isOver _ _ _ _ e8 Gt  )) ?_
        refine e_if hm (fun _ hm => ?_) (fun _ hm => ?_)
        · obtain ⟨y1, e8, hm⟩ := q_b hm
          have Gc := Gy
          obtain ⟨h7, e9, Gy, Ry, F⟩ := l_X1_chooseEfforts _ _ _ _ _ _ _ _ _ e8 Gy Go Gb Gt ((congrFun Qy 0).trans Eo) ((congrFun Qy 1).trans Eb) Dyo Dyb Dyt Dob Dot Dbt
          have Qy := Ry.trans Qy
          refine e_bd ((ca1 Gc).trans e9) ?_
          have Go := fr4 Go (fun a ha => F a (fun hb => Dyo _ hb ha))
          have Gb := fr6 Gb (fun a ha => F a (fun hb => Dyb _ hb ha))
          have Gt := fr10 Gt (fun a ha => F a (fun hb => Dyt _ hb ha))
          have FR := fun a na => (F a (fun hb => na (Or.inl hb))).trans (FR a na)
          obtain ⟨r8, e8, hm⟩ := q_b hm
          refine e_bd ((ca1 Gy).trans (l_X1_drawn _ _ _ _ _ _ _ e8 Gy Go Gt ((congrFun Qy 0).trans Eo) Dyo Dyt Dot)) ?_
          obtain ⟨t2, e8, hm⟩ := q_b hm
          have Gc := Gy
          obtain ⟨h11, e9, Gt, F⟩ := l_X1_tire _ _ _ _ _ _ _ e8 Gy Go Gt ((congrFun Qy 0).trans Eo) Dyo Dyt Dot
          refine e_bd ((ca1 Gc).trans e9) ?_
          have Gy := fr1 Gy (fun a ha => F a (fun hb => Dyt _ ha hb))
          have Go := fr4 Go (fun a ha => F a (fun hb => Dot _ ha hb))
          have Gb := fr6 Gb (fun a ha => F a (fun hb => Dbt _ ha hb))
          have FR := fun a na => (F a (fun hb => na (Or.inr (hb)))).trans (FR a na)
          refine e_bd (gi10_0 Gt) ?_
          refine e_pi (pi10_0 _ Gt) (fun h13 Gt F => ?_)
          have Gy := fr1 Gy (fun a ha => F a (fun hb => Dyt _ ha hb))
          have Go := fr4 Go (fun a ha => F a (fun hb => Dot _ ha hb))
          have Gb := fr6 Gb (fun a ha => F a (fun hb => Dbt _ ha hb))
          have FR := fun a na => (F a (fun hb => na (Or.inr (hb)))).trans (FR a na)
          refine e_bd (gp1_0 Gy ((congrFun Qy 0).trans Eo)) ?_
          obtain ⟨r15, e8, hm⟩ := q_b hm
          refine e_bd ((ca4 Go).trans (l_X4_everyone _ _ _ e8 Go  )) ?_
          obtain ⟨r17, e8, hm⟩ := q_b hm
          refine e_bd ((ca1 Gy).trans (l_X1_slipped _ _ _ _ _ _ _ _ e8 Gy Go Gt ((congrFun Qy 0).trans Eo) Dyo Dyt Dot)) ?_
          refine e_pi (pi10_2 _ Gt) (fun h19 Gt F => ?_)
          have Gy := fr1 Gy (fun a ha => F a (fun hb => Dyt _ ha hb))
          have Go := fr4 Go (fun a ha => F a (fun hb => Dot _ ha hb))
          have Gb := fr6 Gb (fun a ha => F a (fun hb => Dbt _ ha hb))
          have FR := fun a na => (F a (fun hb => na (Or.inr (hb)))).trans (FR a na)
          obtain ⟨x9, e9, Gy, Gt, Ry, F⟩ := l_X1_heaveOn_89 py po pb pt Dyo Dyb Dyt Dob Dot Dbt ih _ _ _ _ _ _ _ hm Gy Go Gb Gt ((congrFun Qy 0).trans Eo) ((congrFun Qy 1).trans Eb)
          exact ⟨x9, e9, Gy, Gt, Ry.trans Qy, fun a na => (F a na).trans (FR a na)⟩
        · obtain ⟨x9, e9, Gy, Gt, Ry, F⟩ := l_X1_heaveOn_89 py po pb pt Dyo Dyb Dyt Dob Dot Dbt ih _ _ _ _ _ _ _ hm Gy Go Gb Gt ((congrFun Qy 0).trans Eo) ((congrFun Qy 1).trans Eb)
          exact ⟨x9, e9, Gy, Gt, Ry.trans Qy, fun a na => (F a na).trans (FR a na)⟩
def t_X1_heaveOn (y o b t : g_S) (a2 : Int32) : Option (g_S × g_S) :=
  t_X1_heaveOn_2 q_fu y o b t a2 ((0 : Int32))
set_option maxRecDepth 20000 in
theorem l_X1_heaveOn (h : q_H) (py po pb pt : Nat) (y o b t : g_S) (a2 : Int32) {y' t' : g_S} (hm : t_X1_heaveOn y o b t a2 = some (y', t')) (Gy : g1 py y h) (Go : g4 po o h) (Gb : g6 pb b h) (Gt : g10 pt t h) (Eo : g_P y 0 = some po) (Eb : g_P y 1 = some pb) (Dyo : ∀ a, f1 py a → f4 po a → False) (Dyb : ∀ a, f1 py a → f6 pb a → False) (Dyt : ∀ a, f1 py a → f10 pt a → False) (Dob : ∀ a, f4 po a → f6 pb a → False) (Dot : ∀ a, f4 po a → f10 pt a → False) (Dbt : ∀ a, f6 pb a → f10 pt a → False) : q_E (m_X1_heaveOn h py pt a2) (fun x => g1 py y' (x) ∧ g10 pt t' (x) ∧ g_P y' = g_P y ∧ ∀ a, ¬ (f1 py a ∨ f10 pt a) → (x) a = h a) := by
  unfold t_X1_heaveOn at hm
  unfold m_X1_heaveOn
  have FR : ∀ a, ¬ (f1 py a ∨ f10 pt a) → h a = h a := fun _ _ => rfl
  have Qy : g_P y = g_P y := rfl
  obtain ⟨x9, e9, Gy, Gt, Ry, F⟩ := l_X1_heaveOn_2 py po pb pt Dyo Dyb Dyt Dob Dot Dbt _ _ _ _ _ _ _ _ hm Gy Go Gb Gt ((congrFun Qy 0).trans Eo) ((congrFun Qy 1).trans Eb)
  exact ⟨x9, e9, Gy, Gt, Ry.trans Qy, fun a na => (F a na).trans (FR a na)⟩
