/-! ===== L3: TRADE, all twos ===== -/
theorem z_trdI {b n po c : Nat} {o : g_S} {κ0 : Nat → g_S} {σ0 : r_S} {h0 : q_H} (X : z_X b n po c o κ0 σ0 h0) {N a : Nat} (hN : N ≤ 40) (ha : a < n) (wh : Int32) (kC : q_H → Nat → Int32 → Int32 → Int32 → Int32 → Int32 → Int32 → Option (Int32 × q_H)) (kR : r_S → Int32 → Int32 → Int32 → Int32 → Int32 → Int32 → Option (Int32 × r_S)) : ∀ (m k fu fu' : Nat) (one other near : Int32) (κ : Nat → g_S) (σ : r_S) (h : q_H), k + m = n → m < fu → m < fu' → z_q b κ0 κ h0 h → z_k σ0 σ → r_A σ 20 = r_A σ0 20 → r_A σ 23 = r_A σ0 23 → r_I σ 21 = r_I σ0 21 →
    ∃ one' other' near' h' κ' σ', m_X8_bestTrade_54 kC fu h (b + 130) (nI N) wh near one other (nI a) (nI k) = kC h' (b + 130) (nI N) wh near' one' other' (nI (a + 1)) ∧ z_q b κ0 κ' h0 h' ∧ t_X12_trade_67 kR fu' σ (nI N) wh one other near (nI a) (nI k) = kR σ' (nI N) wh one' other' near' (nI (a + 1)) ∧ z_k σ0 σ' ∧ r_A σ' 20 = r_A σ0 20 ∧ r_A σ' 23 = r_A σ0 23 ∧ r_I σ' 21 = r_I σ0 21 := by
  have hn : n ≤ 8 := X.2.2.2.2.2.1.1
  have h3 : r_A σ0 20 3 = nI n := X.2.2.2.2.2.1.2.2.1
  have tA := X.2.2.2.2.2.2.2.1.2.2.2
  intro m
  induction m with
  | zero =>
    intro k fu fu' one other near κ σ h hk hf hf' Q K h20 h23 h21
    obtain ⟨fu, rfl⟩ := Nat.exists_eq_succ_of_ne_zero (show fu ≠ 0 by omega)
    obtain ⟨fu', rfl⟩ := Nat.exists_eq_succ_of_ne_zero (show fu' ≠ 0 by omega)
    obtain ⟨p1, p2⟩ := z_pull X Q
    refine ⟨one, other, near, h, κ, σ, ?_, Q, ?_, K, h20, h23, h21⟩
    · rw [m_X8_bestTrade_54, We0 Q.1, Option.bind_some, p1, Option.bind_some, p2, Option.bind_some, if_pos (nI_le (by omega) (by omega)), nI_1]
    · rw [t_X12_trade_67, h20, z_a3, Option.bind_some, h3, if_pos (nI_le (by omega) (by omega)), nI_1]
  | succ m ih =>
    intro k fu fu' one other near κ σ h hk hf hf' Q K h20 h23 h21
    obtain ⟨fu, rfl⟩ := Nat.exists_eq_succ_of_ne_zero (show fu ≠ 0 by omega)
    obtain ⟨fu', rfl⟩ := Nat.exists_eq_succ_of_ne_zero (show fu' ≠ 0 by omega)
    obtain ⟨p1, p2⟩ := z_pull X Q
    have sd : ∀ p, p < n → q_ai h (b + 15) 1 (nI p) = some (r_A σ0 20 (12 + 5 * p)) := fun p hp => by
      rw [show b + 15 = b + 14 + 1 from rfl, ai10_3 (Ww7 Q.1), t_ai_in (by omega) (by decide), Q.2.1 7 (by omega), (tA p hp).1]
    have sdn : q_gn h (b + 14) 10 3 = some (b + 15) := gn10_3 (Ww7 Q.1)
    have eA : ∀ r1 h1, m_X8_nearByTrade h (b + 130) (nI a) (nI k) (nI N) near = some (r1, h1) → m_X8_bestTrade_54 kC (fu + 1) h (b + 130) (nI N) wh near one other (nI a) (nI k) = if near ≤ r1 then m_X8_bestTrade_54 kC fu h1 (b + 130) (nI N) wh near one other (nI a) (nI (k + 1)) else m_X8_bestTrade_54 kC fu h1 (b + 130) (nI N) wh r1 (nI a) (nI k) (nI a) (nI (k + 1)) := by
      intro r1 h1 e
      rw [m_X8_bestTrade_54, We0 Q.1, Option.bind_some, p1, Option.bind_some, p2, Option.bind_some, if_neg (nI_ge (show k < n by omega) (by omega)), Wca8 Q.1, e, Option.bind_some]
      try dsimp only
      rw [m_X8_bestTrade_98, m_X8_bestTrade_98, nI_1]
    have stay : m_X8_nearByTrade h (b + 130) (nI a) (nI k) (nI N) near = some (near, h) → t_X12_trade_67 kR (fu' + 1) σ (nI N) wh one other near (nI a) (nI k) = t_X12_trade_67 kR fu' σ (nI N) wh one other near (nI a) (nI (k + 1)) → ∃ one' other' near' h' κ' σ', m_X8_bestTrade_54 kC (fu + 1) h (b + 130) (nI N) wh near one other (nI a) (nI k) = kC h' (b + 130) (nI N) wh near' one' other' (nI (a + 1)) ∧ z_q b κ0 κ' h0 h' ∧ t_X12_trade_67 kR (fu' + 1) σ (nI N) wh one other near (nI a) (nI k) = kR σ' (nI N) wh one' other' near' (nI (a + 1)) ∧ z_k σ0 σ' ∧ r_A σ' 20 = r_A σ0 20 ∧ r_A σ' 23 = r_A σ0 23 ∧ r_I σ' 21 = r_I σ0 21 := by
      intro e1 e2
      obtain ⟨one', other', near', h', κ', σ', a1, a2, a3, a4⟩ := ih (k + 1) fu fu' one other near κ σ h (by omega) (by omega) (by omega) Q K h20 h23 h21
      refine ⟨one', other', near', h', κ', σ', ?_, a2, ?_, a4⟩
      · rw [eA _ _ e1, if_pos (Int32.le_refl _)]; exact a1
      · rw [e2]; exact a3
    have eN : ∀ (Z : Option (Int32 × q_H)), (if r_A σ0 20 (12 + 5 * a) = 0 then (if r_A σ0 20 (12 + 5 * k) = 1 then (q_ca 8 h (b + 130) (m_X8_startFromNow h (b + 130))).bind (fun h10 => (q_gn h10 (b + 130) 8 3).bind fun v11 => (q_ca 10 h10 v11 (m_X10_changePlaces h10 v11 (nI a) (nI k))).bind fun h13 => (q_gn h13 (b + 130) 8 2).bind fun v14 => (q_gn h13 (b + 130) 8 3).bind fun v15 => (q_ca 1 h13 v14 (m_X1_heaveOn h13 v14 v15 (nI N))).bind fun h17 => (q_gn h17 (b + 130) 8 3).bind fun v18 => (q_gi h17 v18 10 0).bind fun v19 => some ((if 0 ≤ v19 then v19 else 0 - v19), h17)) else some (near, h)) else some (near, h)) = Z → m_X8_nearByTrade h (b + 130) (nI a) (nI k) (nI N) near = Z := by
      intro Z hZ
      unfold m_X8_nearByTrade
      rw [We0 Q.1, Option.bind_some, Wgt Q.1, Option.bind_some, sdn, Option.bind_some, sd a ha, Option.bind_some, Option.bind_some, Wgt Q.1, Option.bind_some, sdn, Option.bind_some, sd k (by omega), Option.bind_some]
      exact hZ
    obtain ⟨XB, hB⟩ : ∃ Z, t_X12_trade_67 kR (fu' + 1) σ (nI N) wh one other near (nI a) (nI k) = Z := ⟨_, rfl⟩
    have eB := hB
    rw [t_X12_trade_67, h20, z_a3, Option.bind_some, h3, if_neg (nI_ge (show k < n by omega) (by omega)), z_sideOf (by omega), Option.bind_some, z_sideOf (by omega), Option.bind_some, h20] at eB
    by_cases c1 : r_A σ0 20 (12 + 5 * a) = 0
    · by_cases c2 : r_A σ0 20 (12 + 5 * k) = 1
      · have had : a ≠ k := fun e => by
          rw [e, c2] at c1
          exact absurd c1 (by decide)
        obtain ⟨h1, κ1, s1, R1, s3⟩ := z_run_start X Q K h20 h23 h21
        obtain ⟨h2, κ2, σ2, w1, R2, w3, w4, w5, w6⟩ := z_swap X R1 ha (show k < n by omega) had
        obtain ⟨h3', κ3, σ3, g1, Q3, g3, g4, g5, g6, g7, g8⟩ := z_near X R2 (show N ≤ 200 by omega)
        have eN2 : m_X8_nearByTrade h (b + 130) (nI a) (nI k) (nI N) near = some (z_abs (g_I (κ3 11) 0), h3') := by
          refine eN _ ?_
          rw [if_pos c1, if_pos c2, Wca8 Q.1, s1, Option.bind_some, We3 R1.1.1, Option.bind_some, ca10 (Ww11 R1.1.1), w1, Option.bind_some, We2 R2.1.1, Option.bind_some, We3 R2.1.1, Option.bind_some, ca1 (Ww10 R2.1.1), g1, Option.bind_some, We3 Q3.1, Option.bind_some, gi10_0 (Ww11 Q3.1), Option.bind_some]
          rfl
        rw [if_pos c1, if_pos c2, w4, Option.bind_some, g4, Option.bind_some] at eB
        try dsimp only at eB
        rw [t_X12_trade_136, t_X12_trade_136, nI_1] at eB
        by_cases cc : near ≤ z_abs (g_I (κ3 11) 0)
        · obtain ⟨one', other', near', h', κ', σ', a1, a2, a3, a4⟩ := ih (k + 1) fu fu' one other near κ3 σ3 h3' (by omega) (by omega) (by omega) Q3 g5 g6 ((g7.trans w5).trans h23) ((g8.trans w6).trans h21)
          refine ⟨one', other', near', h', κ', σ', ?_, a2, ?_, a4⟩
          · rw [eA _ _ eN2, if_pos cc]; exact a1
          · rw [hB, ← eB, if_neg (fun e => Int32.not_le.mpr e cc)]; exact a3
        · obtain ⟨one', other', near', h', κ', σ', a1, a2, a3, a4⟩ := ih (k + 1) fu fu' (nI a) (nI k) (z_abs (g_I (κ3 11) 0)) κ3 σ3 h3' (by omega) (by omega) (by omega) Q3 g5 g6 ((g7.trans w5).trans h23) ((g8.trans w6).trans h21)
          refine ⟨one', other', near', h', κ', σ', ?_, a2, ?_, a4⟩
          · rw [eA _ _ eN2, if_neg cc]; exact a1
          · rw [hB, ← eB, if_pos (Int32.not_le.mp cc)]; exact a3
      · refine stay (eN _ (by rw [if_pos c1, if_neg c2])) ?_
        rw [hB, ← eB, if_pos c1, if_neg c2, t_X12_trade_136, nI_1]
    · refine stay (eN _ (by rw [if_neg c1])) ?_
      rw [hB, ← eB, if_neg c1, t_X12_trade_136, nI_1]
theorem z_trdO {b n po c : Nat} {o : g_S} {κ0 : Nat → g_S} {σ0 : r_S} {h0 : q_H} (X : z_X b n po c o κ0 σ0 h0) {N : Nat} (hN : N ≤ 40) (wh : Int32) : ∀ (m k fu fu' : Nat) (one other near : Int32) (κ : Nat → g_S) (σ : r_S) (h : q_H), k + m = n → m < fu → m < fu' → z_q b κ0 κ h0 h → z_k σ0 σ → r_A σ 20 = r_A σ0 20 → r_A σ 23 = r_A σ0 23 → r_I σ 21 = r_I σ0 21 →
    ∃ r h' κ' σ', m_X8_bestTrade_36 fu h (b + 130) (nI N) wh near one other (nI k) = some (r, h') ∧ z_q b κ0 κ' h0 h' ∧ t_X12_trade_53 fu' σ (nI N) wh one other near (nI k) = some (r, σ') ∧ z_k σ0 σ' ∧ r_A σ' 20 = r_A σ0 20 ∧ r_A σ' 23 = r_A σ0 23 ∧ r_I σ' 21 = r_I σ0 21 := by
  have hn : n ≤ 8 := X.2.2.2.2.2.1.1
  have h3 : r_A σ0 20 3 = nI n := X.2.2.2.2.2.1.2.2.1
  intro m
  induction m with
  | zero =>
    intro k fu fu' one other near κ σ h hk hf hf' Q K h20 h23 h21
    obtain ⟨fu, rfl⟩ := Nat.exists_eq_succ_of_ne_zero (show fu ≠ 0 by omega)
    obtain ⟨fu', rfl⟩ := Nat.exists_eq_succ_of_ne_zero (show fu' ≠ 0 by omega)
    obtain ⟨p1, p2⟩ := z_pull X Q
    refine ⟨if wh = 0 then near else if wh = 1 then one else other, h, κ, σ, ?_, Q, ?_, K, h20, h23, h21⟩
    · rw [m_X8_bestTrade_36, We0 Q.1, Option.bind_some, p1, Option.bind_some, p2, Option.bind_some, if_pos (nI_le (by omega) (by omega))]
      split
      · rfl
      · split <;> rfl
    · rw [t_X12_trade_53, h20, z_a3, Option.bind_some, h3, if_pos (nI_le (by omega) (by omega))]
      split
      · rfl
      · split <;> rfl
  | succ m ih =>
    intro k fu fu' one other near κ σ h hk hf hf' Q K h20 h23 h21
    obtain ⟨fu, rfl⟩ := Nat.exists_eq_succ_of_ne_zero (show fu ≠ 0 by omega)
    obtain ⟨fu', rfl⟩ := Nat.exists_eq_succ_of_ne_zero (show fu' ≠ 0 by omega)
    obtain ⟨p1, p2⟩ := z_pull X Q
    obtain ⟨one1, other1, near1, h1, κ1, σ1, q1, q2, q3, q4, q5, q6, q7⟩ := z_trdI X hN (show k < n by omega) wh (m_X8_bestTrade_36 fu) (t_X12_trade_53 fu') n 0 q_fu q_fu one other near κ σ h (by omega) (by show n < 5000; omega) (by show n < 5000; omega) Q K h20 h23 h21
    obtain ⟨r, h', κ', σ', a1, a2, a3, a4⟩ := ih (k + 1) fu fu' one1 other1 near1 κ1 σ1 h1 (by omega) (by omega) (by omega) q2 q4 q5 q6 q7
    refine ⟨r, h', κ', σ', ?_, a2, ?_, a4⟩
    · rw [m_X8_bestTrade_36, We0 Q.1, Option.bind_some, p1, Option.bind_some, p2, Option.bind_some, if_neg (nI_ge (show k < n by omega) (by omega))]
      exact q1.trans a1
    · rw [t_X12_trade_53, h20, z_a3, Option.bind_some, h3, if_neg (nI_ge (show k < n by omega) (by omega))]
      exact q3.trans a3
theorem z_trade {b n po c : Nat} {o : g_S} {κ : Nat → g_S} {σ : r_S} {h : q_H} (X : z_X b n po c o κ σ h) {N : Nat} (hN : N ≤ 40) (wh : Int32) :
    ∃ r h' κ' σ', m_X8_bestTrade h (b + 130) (nI N) wh = some (r, h') ∧ z_q b κ κ' h h' ∧ (t_X12_keeps σ).bind (fun σ8 => (t_X12_nearIn σ8 (nI N)).bind fun (r9, σ10) => t_X12_trade_53 q_fu σ10 (nI N) wh (-1) (-1) r9 0) = some (r, σ') ∧ z_k σ σ' ∧ r_A σ' 20 = r_A σ 20 ∧ r_A σ' 23 = r_A σ 23 ∧ r_I σ' 21 = r_I σ 21 := by
  have hn : n ≤ 8 := X.2.2.2.2.2.1.1
  obtain ⟨σ1, k1, k2, k3, k4, k5, k6⟩ := z_keeps σ
  have Q := z_q_refl X.1
  obtain ⟨h1, κ1, s1, R1, s3⟩ := z_run_start X Q k2 k3 k4 k5
  obtain ⟨h2, κ2, σ2, g1, Q2, g3, g4, g5, g6, g7, g8⟩ := z_near X R1 (show N ≤ 200 by omega)
  obtain ⟨r, h', κ', σ', a1, a2, a3, a4⟩ := z_trdO X hN wh n 0 q_fu q_fu (-1) (-1) (z_abs (g_I (κ2 11) 0)) κ2 σ2 h2 (by omega) (by show n < 5000; omega) (by show n < 5000; omega) Q2 g5 g6 (g7.trans k4) (g8.trans k5)
  refine ⟨r, h', κ', σ', ?_, a2, ?_, a4⟩
  · unfold m_X8_bestTrade
    rw [Wca8 Q.1, s1, Option.bind_some, We2 R1.1.1, Option.bind_some, We3 R1.1.1, Option.bind_some, ca1 (Ww10 R1.1.1), g1, Option.bind_some, We3 Q2.1, Option.bind_some, gi10_0 (Ww11 Q2.1), Option.bind_some]
    exact a1
  · rw [k1, Option.bind_some, g4, Option.bind_some]
    exact a3
