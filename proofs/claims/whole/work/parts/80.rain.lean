/-! ===== L3: ALIKE, second half ===== -/
theorem z_aaL {σ : r_S} {u v : Nat} (hu : u < 61) (hv : v < 61) : ∀ (m q fu : Nat), q + m = 10 → m < fu → ∃ r, t_X12_areAlike_2 fu σ (nI u) (nI v) (nI q) = some r ∧ ((r = 1 ∧ ∀ j, q ≤ j → j < 10 → r_A σ 29 (10 * u + j) = r_A σ 29 (10 * v + j)) ∨ (r = 0 ∧ ¬ ∀ j, q ≤ j → j < 10 → r_A σ 29 (10 * u + j) = r_A σ 29 (10 * v + j))) := by
  intro m
  induction m with
  | zero =>
    intro q fu hq hf
    obtain ⟨fu, rfl⟩ := Nat.exists_eq_succ_of_ne_zero (show fu ≠ 0 by omega)
    refine ⟨1, ?_, Or.inl ⟨rfl, fun j h1 h2 => by omega⟩⟩
    rw [t_X12_areAlike_2, if_pos (show (10 : Int32) ≤ nI q from nI_le (a := 10) (by omega) (by omega))]
  | succ m ih =>
    intro q fu hq hf
    obtain ⟨fu, rfl⟩ := Nat.exists_eq_succ_of_ne_zero (show fu ≠ 0 by omega)
    obtain ⟨r, e1, e2⟩ := ih (q + 1) fu (by omega) (by omega)
    by_cases c : r_A σ 29 (10 * u + q) = r_A σ 29 (10 * v + q)
    · refine ⟨r, ?_, ?_⟩
      · rw [t_X12_areAlike_2, if_neg (show ¬ (10 : Int32) ≤ nI q from nI_ge (b := 10) (by omega) (by decide)), z_ix1010, z_ix1010, t_ai_in (by omega) (by decide), Option.bind_some, t_ai_in (by omega) (by decide), Option.bind_some, if_pos c, nI_1]
        exact e1
      · rcases e2 with ⟨a1, a2⟩ | ⟨a1, a2⟩
        · refine Or.inl ⟨a1, fun j h1 h2 => ?_⟩
          by_cases e : j = q
          · rw [e]; exact c
          · exact a2 j (by omega) h2
        · exact Or.inr ⟨a1, fun h => a2 (fun j h1 h2 => h j (by omega) h2)⟩
    · refine ⟨0, ?_, Or.inr ⟨rfl, fun h => c (h q (by omega) (by omega))⟩⟩
      rw [t_X12_areAlike_2, if_neg (show ¬ (10 : Int32) ≤ nI q from nI_ge (b := 10) (by omega) (by decide)), z_ix1010, z_ix1010, t_ai_in (by omega) (by decide), Option.bind_some, t_ai_in (by omega) (by decide), Option.bind_some, if_neg c]
theorem z_al2I {b n : Nat} {κ : Nat → g_S} {σ : r_S} {h : q_H} {s0 : Nat → Int32} (W : z_W b κ h) (hn : n ≤ 8) (h10 : g_I (κ 7) 1 = r_A σ 20 10) (hrel : ∀ j, j < 61 → z_al n s0 (g_L (κ 13) 0 j) (fun q => r_A σ 29 (10 * j + q))) (a1 : Int32) {u : Nat} (hu : u < 60) (kC : q_H → Nat → Int32 → Int32 → Option (Int32 × q_H)) (kR : r_S → Int32 → Int32 → Option (Int32 × r_S)) : ∀ (m v fu fu' : Nat), v + m = 61 → m < fu → m < fu' → (∃ r, m_X8_findAlike_65 kC fu h (b + 130) a1 (nI u) (nI v) = some (r, h) ∧ t_X12_alike_122 kR fu' σ a1 (nI u) (nI v) = some (r, σ)) ∨ (m_X8_findAlike_65 kC fu h (b + 130) a1 (nI u) (nI v) = kC h (b + 130) a1 (nI (u + 1)) ∧ t_X12_alike_122 kR fu' σ a1 (nI u) (nI v) = kR σ a1 (nI (u + 1))) := by
  have al : ∀ j, j < 61 → q_al h (b + 141) (nI j) = some (g_L (κ 13) 0 j) := fun j hj => by
    unfold q_al
    rw [Ww13 W, show g_L (κ 13) 0 j = g_L (κ 13) 0 (nI j).toNatClampNeg by rw [nI_clamp (by omega)]]
    exact if_pos ⟨rfl, (show q_in (nI j) 61 from vp_in_nI hj (by decide))⟩
  intro m
  induction m with
  | zero =>
    intro v fu fu' hv hf hf'
    obtain ⟨fu, rfl⟩ := Nat.exists_eq_succ_of_ne_zero (show fu ≠ 0 by omega)
    obtain ⟨fu', rfl⟩ := Nat.exists_eq_succ_of_ne_zero (show fu' ≠ 0 by omega)
    refine Or.inr ⟨?_, ?_⟩
    · rw [m_X8_findAlike_65, if_pos (show (60 : Int32) < nI v from nI_lt (a := 60) (by omega) (by omega)), nI_1]
    · rw [t_X12_alike_122, if_pos (show (60 : Int32) < nI v from nI_lt (a := 60) (by omega) (by omega)), nI_1]
  | succ m ih =>
    intro v fu fu' hv hf hf'
    obtain ⟨fu, rfl⟩ := Nat.exists_eq_succ_of_ne_zero (show fu ≠ 0 by omega)
    obtain ⟨fu', rfl⟩ := Nat.exists_eq_succ_of_ne_zero (show fu' ≠ 0 by omega)
    have hv60 : ¬ (60 : Int32) < nI v := nI_nlt (b := v) (a := 60) (by omega) (by decide)
    obtain ⟨r, e1, e2⟩ := z_aaL (σ := σ) (u := u) (v := v) (by omega) (by omega) 10 0 q_fu (by omega) (by show 10 < 5000; omega)
    have e1' : t_X12_areAlike σ (nI u) (nI v) = some r := e1
    have iff := z_al_iff hn (hrel u (by omega)) (hrel v (by omega))
    obtain ⟨XA, hA⟩ : ∃ Z, m_X8_findAlike_65 kC (fu + 1) h (b + 130) a1 (nI u) (nI v) = Z := ⟨_, rfl⟩
    have eA := hA
    rw [m_X8_findAlike_65, if_neg hv60, We5 W, Option.bind_some, al u (by omega), Option.bind_some, Option.bind_some, al v (by omega), Option.bind_some, We0 W, Option.bind_some, Wgt W, Option.bind_some, gi10_1 (Ww7 W), Option.bind_some, nI_1] at eA
    obtain ⟨XB, hB⟩ : ∃ Z, t_X12_alike_122 kR (fu' + 1) σ a1 (nI u) (nI v) = Z := ⟨_, rfl⟩
    have eB := hB
    rw [t_X12_alike_122, if_neg hv60, e1', Option.bind_some, z_a10, Option.bind_some, nI_1] at eB
    rcases e2 with ⟨rfl, all⟩ | ⟨rfl, no⟩
    · have eq := iff.mpr (fun q hq => all q (by omega) hq)
      rw [if_pos (z_lg.mpr eq)] at eA
      rw [if_neg (by decide)] at eB
      refine Or.inl ⟨if a1 = 0 then r_A σ 20 10 + nI u else nI v - nI u, ?_, ?_⟩
      · rw [hA, ← eA, h10]
        split <;> rfl
      · rw [hB, ← eB]
        split <;> rfl
    · rw [if_neg (fun e => no (fun j _ hj => iff.mp (z_lg.mp e) j hj))] at eA
      rw [if_pos rfl] at eB
      rcases ih (v + 1) fu fu' (by omega) (by omega) (by omega) with ⟨r, x, y⟩ | ⟨x, y⟩
      · exact Or.inl ⟨r, by rw [hA, ← eA]; exact x, by rw [hB, ← eB]; exact y⟩
      · exact Or.inr ⟨by rw [hA, ← eA]; exact x, by rw [hB, ← eB]; exact y⟩
theorem z_al2O {b n : Nat} {κ : Nat → g_S} {σ : r_S} {h : q_H} {s0 : Nat → Int32} (W : z_W b κ h) (hn : n ≤ 8) (h10 : g_I (κ 7) 1 = r_A σ 20 10) (hrel : ∀ j, j < 61 → z_al n s0 (g_L (κ 13) 0 j) (fun q => r_A σ 29 (10 * j + q))) (a1 : Int32) : ∀ (m u fu fu' : Nat), u + m = 60 → m < fu → m < fu' → ∃ r, m_X8_findAlike_55 fu h (b + 130) a1 (nI u) = some (r, h) ∧ t_X12_alike_112 fu' σ a1 (nI u) = some (r, σ) := by
  intro m
  induction m with
  | zero =>
    intro u fu fu' hu hf hf'
    obtain ⟨fu, rfl⟩ := Nat.exists_eq_succ_of_ne_zero (show fu ≠ 0 by omega)
    obtain ⟨fu', rfl⟩ := Nat.exists_eq_succ_of_ne_zero (show fu' ≠ 0 by omega)
    refine ⟨-2, ?_, ?_⟩
    · rw [m_X8_findAlike_55, if_pos (show (60 : Int32) ≤ nI u from nI_le (a := 60) (by omega) (by omega))]
    · rw [t_X12_alike_112, if_pos (show (60 : Int32) ≤ nI u from nI_le (a := 60) (by omega) (by omega))]
  | succ m ih =>
    intro u fu fu' hu hf hf'
    obtain ⟨fu, rfl⟩ := Nat.exists_eq_succ_of_ne_zero (show fu ≠ 0 by omega)
    obtain ⟨fu', rfl⟩ := Nat.exists_eq_succ_of_ne_zero (show fu' ≠ 0 by omega)
    have hu60 : ¬ (60 : Int32) ≤ nI u := nI_ge (b := 60) (by omega) (by decide)
    rcases z_al2I W hn h10 hrel a1 (show u < 60 by omega) (m_X8_findAlike_55 fu) (t_X12_alike_112 fu') (60 - u) (u + 1) q_fu q_fu (by omega) (by show _ < 5000; omega) (by show _ < 5000; omega) with ⟨r, x, y⟩ | ⟨x, y⟩
    · refine ⟨r, ?_, ?_⟩
      · rw [m_X8_findAlike_55, if_neg hu60, nI_1]; exact x
      · rw [t_X12_alike_112, if_neg hu60, nI_1]; exact y
    · obtain ⟨r, p, q⟩ := ih (u + 1) fu fu' (by omega) (by omega) (by omega)
      refine ⟨r, ?_, ?_⟩
      · rw [m_X8_findAlike_55, if_neg hu60, nI_1]; exact x.trans p
      · rw [t_X12_alike_112, if_neg hu60, nI_1]; exact y.trans q
theorem z_alike {b n po c : Nat} {o : g_S} {κ : Nat → g_S} {σ : r_S} {h : q_H} (X : z_X b n po c o κ σ h) (a1 : Int32) :
    ∃ r h' κ' σ', m_X8_findAlike h (b + 130) a1 = some (r, h') ∧ z_q b κ κ' h h' ∧ (t_X12_keeps σ).bind (fun σ6 => t_X12_alike_25 q_fu σ6 a1 0) = some (r, σ') ∧ z_k σ σ' ∧ r_A σ' 20 = r_A σ 20 ∧ r_A σ' 23 = r_A σ 23 ∧ r_I σ' 21 = r_I σ 21 := by
  obtain ⟨σ1, k1, k2, k3, k4, k5, k6⟩ := z_keeps σ
  obtain ⟨h1, κ1, s1, R1, s3⟩ := z_run_start X (z_q_refl X.1) k2 k3 k4 k5
  obtain ⟨h', κ', σ', q1, q2, q3, q4, q5, q6, q7, q8⟩ := z_alL X a1 61 0 q_fu q_fu κ1 σ1 h1 (by omega) (by show 61 < 5000; omega) (by show 61 < 5000; omega) R1 k4 k5 (fun j _ => by rw [k3]) (fun j hj => absurd hj (Nat.not_lt_zero _))
  obtain ⟨r, a2, a3⟩ := z_al2O q2.1 X.2.2.2.2.2.1.1 (by rw [q2.2.1 7 (by omega), q5]; exact X.2.2.2.2.2.2.2.1.2.1) q8 a1 60 0 q_fu q_fu (by omega) (by show 60 < 5000; omega) (by show 60 < 5000; omega)
  refine ⟨r, h', κ', σ', ?_, q2, ?_, q4, q5, q6, q7⟩
  · unfold m_X8_findAlike
    rw [Wca8 X.1, s1, Option.bind_some]
    exact q1.trans a2
  · rw [k1, Option.bind_some]
    exact q3.trans a3
