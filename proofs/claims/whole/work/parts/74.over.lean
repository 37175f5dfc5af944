/-! ===== L3: AHEAD and OVER ===== -/
/-- both sides try alike, from now on -/
def z_run (b n po : Nat) (κ0 κ : Nat → g_S) (σ0 σ : r_S) (h0 h : q_H) : Prop := z_q b κ0 κ h0 h ∧ z_k σ0 σ ∧ z_t (κ 11) (r_A σ 20) n ∧ z_V (r_A σ 20) n ∧ g_P (κ 10) 0 = some po ∧ z_ru b (g_P (κ 10) 1) (r_I σ 21) σ h po ∧ z_pl (κ 10) σ
theorem z_q_refl {b : Nat} {κ : Nat → g_S} {h : q_H} (W : z_W b κ h) : z_q b κ κ h h := ⟨W, fun _ _ => rfl, fun _ _ => rfl⟩
section RUN
variable {b n po c : Nat} {o : g_S} {κ0 κ : Nat → g_S} {σ0 σ : r_S} {h0 h : q_H}
theorem z_XR (X : z_X b n po c o κ0 σ0 h0) (K : z_k σ0 σ) : z_R (r_A σ 20) n ∧ z_o o (r_A σ 20) n := ⟨z_R_ext K.2.2.2 X.2.2.2.2.2.1, z_o_ext K.2.2.2 X.2.2.2.2.1⟩
theorem z_Xg4 (X : z_X b n po c o κ0 σ0 h0) (Q : z_q b κ0 κ h0 h) : g4 po o h := fr4 X.2.2.2.1 (fun a ha => Q.2.2 a (by have := X.2.2.1; unfold f4 at ha; omega))
theorem z_Xpo (X : z_X b n po c o κ0 σ0 h0) (Q : z_q b κ0 κ h0 h) : g_P (κ 6) 0 = some po := by rw [Q.2.1 6 (by omega)]; exact X.2.1
theorem z_run_go {m : Nat} (X : z_X b n po c o κ0 σ0 h0) (R : z_run b n po κ0 κ σ0 σ h0 h) (hm : m ≤ 200) : ∃ h' κ' σ', m_X1_heaveOn h (b + 124) (b + 131) (nI m) = some h' ∧ z_run b n po κ0 κ' σ0 σ' h0 h' ∧ t_X12_passesAll σ (nI m) = some σ' ∧ (m = 1 → t_X12_passes σ = some σ') ∧ r_A σ' 20 10 = r_A σ 20 10 + nI m ∧ (∀ k, k ≠ 10 → k ≠ 11 → κ' k = κ k) ∧ z_eqv σ σ' ∧ g_A (κ' 10) 2 = g_A (κ 10) 2 ∧ (∀ j, 12 + 5 * n ≤ j → r_A σ' 20 j = r_A σ 20 j) := by
  obtain ⟨Q, K, ht, hV, hY0, hru, hpl⟩ := R
  obtain ⟨hR, ho⟩ := z_XR X K
  obtain ⟨h', κ', σ', c1, c2, c3, c4, c5, c6, c7, c8, c9, c10, c11, c12, c13, c14⟩ := z_go X Q (z_Xg4 X Q) (Or.inl X.2.2.1) hR ho hY0 hru hV ht hpl hm
  refine ⟨h', κ', σ', c1, ⟨c2, z_k_eqv hR.1 K c10 c8, c6, c7, by rw [c12]; exact hY0, c13, fun p hp => ?_⟩, c4, c5, c9, c3, c10, c11, fun j hj => c8 j (Or.inr hj)⟩
  rw [c11, c10.2.1 23 (by decide) (by decide)]
  exact hpl p hp
theorem z_run_start (X : z_X b n po c o κ0 σ0 h0) (Q : z_q b κ0 κ h0 h) (K : z_k σ0 σ) (h20 : r_A σ 20 = r_A σ0 20) (h23 : r_A σ 23 = r_A σ0 23) (h21 : r_I σ 21 = r_I σ0 21) : ∃ h' κ', m_X8_startFromNow h (b + 130) = some h' ∧ z_run b n po κ0 κ' σ0 σ h0 h' ∧ (∀ k, k ≠ 10 → k ≠ 11 → κ' k = κ k) := by
  obtain ⟨h', κ', c1, c2, c3, c4, c5, c6, c7⟩ := z_start X Q K h21
  refine ⟨h', κ', c1, ⟨c2, K, by rw [h20]; exact c7, by rw [h20]; exact X.2.2.2.2.2.2.1, c4, c5, fun p hp => ?_⟩, c3⟩
  have hp1 := X.2.2.2.2.2.2.2.2.2.2.2 p hp
  rw [h23, c6 p hp, hp1]
  exact ⟨rfl, Or.inl rfl⟩
/-- what the class reads of the trial -/
theorem z_r_rib (Q : z_q b κ0 κ h0 h) : q_gi h (b + 131) 10 0 = some (g_I (κ 11) 0) := gi10_0 (Ww11 Q.1)
theorem z_ribbon (hR : z_R (r_A σ 20) n) : t_X12_ribbon σ = some (r_A σ 20 11 + 100) := by
  unfold t_X12_ribbon t_X12_isRope
  rw [z_a0, Option.bind_some, hR.2.1, if_pos rfl, Option.bind_some, if_neg (by decide), z_a11]
  rfl
theorem z_isRope1 (hR : z_R (r_A σ 20) n) : t_X12_isRope σ = some 1 := by
  unfold t_X12_isRope
  rw [z_a0, Option.bind_some, hR.2.1, if_pos rfl]
end RUN
theorem z_ahead {b n po c m : Nat} {o : g_S} {κ : Nat → g_S} {σ : r_S} {h : q_H} (X : z_X b n po c o κ σ h) (hm : m ≤ 100) (a1 a3 : Int32) (ha : a3 = 0 ∨ (a3 = 1 ∧ ∃ p, p < n ∧ a1 = nI p) ∨ a3 = 2) :
    ∃ r h' κ' σ', m_X8_lookAhead h (b + 130) a1 (nI m) a3 = some (r, h') ∧ z_q b κ κ' h h' ∧ t_X12_ahead_46 σ a1 (nI m) a3 = some (r, σ') ∧ z_k σ σ' ∧ r_A σ' 20 = r_A σ 20 ∧ r_A σ' 23 = r_A σ 23 ∧ r_I σ' 21 = r_I σ 21 := by
  obtain ⟨σ1, k1, k2, k3, k4, k5, k6⟩ := z_keeps σ
  obtain ⟨h1, κ1, s1, s2, s3⟩ := z_run_start X (z_q_refl X.1) k2 k3 k4 k5
  obtain ⟨h2, κ2, σ2, g1, g2, g3, g4, g5, g6, g7, g8, g9⟩ := z_run_go X s2 (show m ≤ 200 by omega)
  obtain ⟨Q2, K2, T2, V2, -, -, -⟩ := g2
  obtain ⟨hR2, -⟩ := z_XR X K2
  obtain ⟨l1, l2⟩ := z_lays K2
  have e1 : m_X8_lookAhead h (b + 130) a1 (nI m) a3 = if a3 = 0 then some (g_I (κ2 11) 0 + 100, h2) else if a3 = 1 then (t_ai 8 (g_A (κ2 11) 5) a1).bind fun v => some (v, h2) else some (g_I (κ2 11) 2, h2) := by
    unfold m_X8_lookAhead
    rw [Wca8 X.1, s1, Option.bind_some, We2 s2.1.1, Option.bind_some, We3 s2.1.1, Option.bind_some, ca1 (Ww10 s2.1.1), g1, Option.bind_some, We3 Q2.1, Option.bind_some, gi10_0 (Ww11 Q2.1), Option.bind_some, Option.bind_some, gn10_5 (Ww11 Q2.1), Option.bind_some, ai10_5 (Ww11 Q2.1), Option.bind_some, gi10_2 (Ww11 Q2.1), Option.bind_some]
  have e83 : ∀ v, t_X12_ahead_83 σ2 v = some (v, r_sa σ2 20 (r_A σ 20)) := fun v => by
    unfold t_X12_ahead_83
    rw [l1]
    rfl
  have fin : ∀ r, m_X8_lookAhead h (b + 130) a1 (nI m) a3 = some (r, h2) → t_X12_ahead_46 σ a1 (nI m) a3 = some (r, r_sa σ2 20 (r_A σ 20)) → ∃ r h' κ' σ', m_X8_lookAhead h (b + 130) a1 (nI m) a3 = some (r, h') ∧ z_q b κ κ' h h' ∧ t_X12_ahead_46 σ a1 (nI m) a3 = some (r, σ') ∧ z_k σ σ' ∧ r_A σ' 20 = r_A σ 20 ∧ r_A σ' 23 = r_A σ 23 ∧ r_I σ' 21 = r_I σ 21 := fun r x y => ⟨r, h2, κ2, _, x, Q2, y, l2, z_rA _ _ _, by rw [z_rAn (by decide), g7.2.1 23 (by decide) (by decide)]; exact k4, (g7.1 21 (by decide)).trans k5⟩
  rcases ha with rfl | ⟨rfl, p, hp, rfl⟩ | rfl
  · refine fin (g_I (κ2 11) 0 + 100) ?_ ?_
    · rw [e1, if_pos rfl]
    · unfold t_X12_ahead_46
      rw [k1, Option.bind_some, g3, Option.bind_some, if_pos rfl, z_ribbon hR2, Option.bind_some, e83, T2.1]
  · have hp8 : p < 8 := by have := hR2.1; omega
    refine fin (g_A (κ2 11) 5 p) ?_ ?_
    · rw [e1, if_neg (by decide), if_pos rfl, t_ai_in hp8 (by decide)]
      rfl
    · unfold t_X12_ahead_46
      rw [k1, Option.bind_some, g3, Option.bind_some, if_neg (by decide), if_pos rfl, z_windOf hp8, Option.bind_some, e83, (T2.2.2.2 p hp).2.2.1]
  · refine fin (g_I (κ2 11) 2) ?_ ?_
    · rw [e1, if_neg (by decide), if_neg (by decide)]
    · unfold t_X12_ahead_46
      rw [k1, Option.bind_some, g3, Option.bind_some, if_neg (by decide), if_neg (by decide), z_upOnes hR2.1 hR2.2.2.1, Option.bind_some, e83, T2.2.2.1]
theorem z_overL {b n po c : Nat} {o : g_S} {κ0 : Nat → g_S} {σ0 : r_S} {h0 : q_H} (X : z_X b n po c o κ0 σ0 h0) (a1 : Int32) (ha : a1 = 0 ∨ a1 = 1) : ∀ (m k fu fu' : Nat) (κ : Nat → g_S) (σ : r_S) (h : q_H), k + m = 200 → m < fu → m + 1 < fu' → z_run b n po κ0 κ σ0 σ h0 h → r_A σ 20 10 = r_A σ0 20 10 + nI k → r_A σ 23 = r_A σ0 23 → r_I σ 21 = r_I σ0 21 →
    ∃ r h' κ' σ', m_X8_findEnd_6 fu h (b + 130) a1 (nI k) = some (r, h') ∧ z_q b κ0 κ' h0 h' ∧ t_X12_over_28 fu' σ a1 (-2) (nI k) = some (r, σ') ∧ z_k σ0 σ' ∧ r_A σ' 20 = r_A σ0 20 ∧ r_A σ' 23 = r_A σ0 23 ∧ r_I σ' 21 = r_I σ0 21 := by
  intro m
  induction m with
  | zero =>
    intro k fu fu' κ σ h hk hf hf' R h10 h23 h21
    obtain ⟨fu, rfl⟩ := Nat.exists_eq_succ_of_ne_zero (show fu ≠ 0 by omega)
    obtain ⟨fu', rfl⟩ := Nat.exists_eq_succ_of_ne_zero (show fu' ≠ 0 by omega)
    obtain ⟨l1, l2⟩ := z_lays R.2.1
    refine ⟨-2, h, κ, _, ?_, R.1, ?_, l2, z_rA _ _ _, by rw [z_rAn (by decide)]; exact h23, h21⟩
    · rw [m_X8_findEnd_6, if_pos (show (200 : Int32) ≤ nI k from nI_le (a := 200) (by omega) (by omega))]
    · rw [t_X12_over_28, if_pos (show (200 : Int32) ≤ nI k from nI_le (a := 200) (by omega) (by omega)), t_X12_over_88, l1]
      rfl
  | succ m ih =>
    intro k fu fu' κ σ h hk hf hf' R h10 h23 h21
    obtain ⟨fu, rfl⟩ := Nat.exists_eq_succ_of_ne_zero (show fu ≠ 0 by omega)
    obtain ⟨fu', rfl⟩ := Nat.exists_eq_succ_of_ne_zero (show fu' ≠ 0 by omega)
    obtain ⟨h1, κ1, σ1, g1, R1, g3, g4, g5, g6, g7, g8, g9⟩ := z_run_go (m := 1) X R (by decide)
    have Q1 := R1.1
    have W1 := Q1.1
    obtain ⟨hR1, ho1⟩ := z_XR X R1.2.1
    have e23 : r_A σ1 23 = r_A σ0 23 := (g7.2.1 23 (by decide) (by decide)).trans h23
    have e21 : r_I σ1 21 = r_I σ0 21 := (g7.1 21 (by decide)).trans h21
    have e10 : r_A σ1 20 10 = r_A σ0 20 10 + nI (k + 1) := by rw [g5, h10, Int32.add_assoc, nI_add]
    have ov := z_over (t := κ1 11) (o := o) (σ := σ1) R1.2.2.1.1 ho1.2.1
    have lov : m_X10_isOver h1 (b + 131) (g_I o 0) = t_X10_isOver (κ1 11) (g_I o 0) := by
      rcases z_over01 σ1 with e | e
      · exact (l_X10_isOver _ _ _ _ (ov.trans e) (Ww11 W1)).trans (ov.trans e).symm
      · exact (l_X10_isOver _ _ _ _ (ov.trans e) (Ww11 W1)).trans (ov.trans e).symm
    obtain ⟨XA, hA⟩ : ∃ Z, m_X8_findEnd_6 (fu + 1) h (b + 130) a1 (nI k) = Z := ⟨_, rfl⟩
    have eA := hA
    rw [m_X8_findEnd_6, if_neg (show ¬ (200 : Int32) ≤ nI k from nI_ge (b := 200) (by omega) (by decide)), We2 R.1.1, Option.bind_some, We3 R.1.1, Option.bind_some, ca1 (Ww10 R.1.1), show (1 : Int32) = nI 1 from rfl, g1, Option.bind_some, We3 W1, Option.bind_some, We0 W1, Option.bind_some, Wgr W1 (z_Xpo X Q1), Option.bind_some, gi4_0 (z_Xg4 X Q1), Option.bind_some, ca10 (Ww11 W1), lov, ov] at eA
    obtain ⟨XB, hB⟩ : ∃ Z, t_X12_over_28 (fu' + 1) σ a1 (-2) (nI k) = Z := ⟨_, rfl⟩
    have eB := hB
    rw [t_X12_over_28, if_neg (show ¬ (200 : Int32) ≤ nI k from nI_ge (b := 200) (by omega) (by decide)), if_neg (by decide), g4 rfl, Option.bind_some] at eB
    -- it ends here with an answer that is not below 0
    have fin : ∀ v : Int32, 0 ≤ v → m_X8_findEnd_6 (fu + 1) h (b + 130) a1 (nI k) = some (v, h1) → t_X12_over_28 (fu' + 1) σ a1 (-2) (nI k) = t_X12_over_28 fu' σ1 a1 v (nI (k + 1)) → ∃ r h' κ' σ', m_X8_findEnd_6 (fu + 1) h (b + 130) a1 (nI k) = some (r, h') ∧ z_q b κ0 κ' h0 h' ∧ t_X12_over_28 (fu' + 1) σ a1 (-2) (nI k) = some (r, σ') ∧ z_k σ0 σ' ∧ r_A σ' 20 = r_A σ0 20 ∧ r_A σ' 23 = r_A σ0 23 ∧ r_I σ' 21 = r_I σ0 21 := by
      intro v hv x y
      obtain ⟨l1, l2⟩ := z_lays R1.2.1
      obtain ⟨fu', rfl⟩ := Nat.exists_eq_succ_of_ne_zero (show fu' ≠ 0 by omega)
      refine ⟨v, h1, κ1, _, x, Q1, ?_, l2, z_rA _ _ _, by rw [z_rAn (by decide)]; exact e23, e21⟩
      rw [y, t_X12_over_28]
      have e88 : t_X12_over_88 σ1 v = some (v, r_sa σ1 20 (r_A σ0 20)) := by
        unfold t_X12_over_88
        rw [l1]
        rfl
      by_cases cc : (200 : Int32) ≤ nI (k + 1)
      · rw [if_pos cc, e88]
      · rw [if_neg cc, if_pos hv, e88]
    rcases z_over01 σ1 with e | e
    · rw [e, Option.bind_some, if_pos rfl, nI_add] at eA
      rw [e, Option.bind_some, if_pos rfl, t_X12_over_82, nI_1] at eB
      obtain ⟨r, h', κ', σ', q1, q2⟩ := ih (k + 1) fu fu' κ1 σ1 h1 (by omega) (by omega) (by omega) R1 e10 e23 e21
      refine ⟨r, h', κ', σ', ?_, q2.1, ?_, q2.2.2⟩
      · rw [hA, ← eA]; exact q1
      · rw [hB, ← eB]; exact q2.2.1
    · rw [e, Option.bind_some, if_neg (by decide)] at eA
      rw [e, Option.bind_some, if_neg (by decide)] at eB
      obtain ⟨hv, hhv, ehv⟩ := X.2.2.2.2.2.2.2.2.1
      rcases ha with rfl | rfl
      · rw [if_pos rfl, Option.bind_some, Wgt W1, Option.bind_some, gi10_1 (Ww7 W1), Option.bind_some, Q1.2.1 7 (by omega), X.2.2.2.2.2.2.2.1.2.1, ehv, nI_add] at eA
        rw [if_pos rfl, z_a10, Option.bind_some, t_X12_over_81, t_X12_over_82, nI_1, e10, ehv, nI_add, show hv + (k + 1) = (hv + k) + 1 by omega, nI_pred] at eB
        exact fin (nI (hv + k)) (nI_pos' (by omega)) (hA.trans eA.symm) (hB.trans eB.symm)
      · rw [if_neg (by decide), Option.bind_some, gi10_0 (Ww11 W1), Option.bind_some, R1.2.2.1.1] at eA
        rw [if_neg (by decide), z_a11, Option.bind_some] at eB
        by_cases cc : 0 ≤ r_A σ1 20 11
        · rw [if_pos cc] at eA
          rw [if_pos cc, t_X12_over_81, t_X12_over_82, nI_1] at eB
          exact fin 1 (by decide) (hA.trans eA.symm) (hB.trans eB.symm)
        · rw [if_neg cc] at eA
          rw [if_neg cc, t_X12_over_81, t_X12_over_82, nI_1] at eB
          exact fin 0 (by decide) (hA.trans eA.symm) (hB.trans eB.symm)
theorem z_overX {b n po c : Nat} {o : g_S} {κ : Nat → g_S} {σ : r_S} {h : q_H} (X : z_X b n po c o κ σ h) (a1 : Int32) (ha : a1 = 0 ∨ a1 = 1) :
    ∃ r h' κ' σ', m_X8_findEnd h (b + 130) a1 = some (r, h') ∧ z_q b κ κ' h h' ∧ (t_X12_keeps σ).bind (fun σ6 => t_X12_over_28 q_fu σ6 a1 (-2) 0) = some (r, σ') ∧ z_k σ σ' ∧ r_A σ' 20 = r_A σ 20 ∧ r_A σ' 23 = r_A σ 23 ∧ r_I σ' 21 = r_I σ 21 := by
  obtain ⟨σ1, k1, k2, k3, k4, k5, k6⟩ := z_keeps σ
  obtain ⟨h1, κ1, s1, s2, s3⟩ := z_run_start X (z_q_refl X.1) k2 k3 k4 k5
  obtain ⟨r, h', κ', σ', q1, q2, q3, q4⟩ := z_overL X a1 ha 200 0 q_fu q_fu κ1 σ1 h1 (by omega) (by show 200 < 5000; omega) (by show 201 < 5000; omega) s2 (by rw [k3]; exact (Int32.add_zero _).symm) k4 k5
  refine ⟨r, h', κ', σ', ?_, q2, ?_, q4⟩
  · unfold m_X8_findEnd
    rw [Wca8 X.1, s1, Option.bind_some]
    exact q1
  · rw [k1, Option.bind_some]
    exact q3
