/-! ===== L3: an ACT is kept, both sides ===== -/
theorem z_m20 {k : Nat} (hk : k < 60) : q_rmi (nI k) 20 = nI (k % 20) := pk_rem (d := 20) (by omega) (by decide) (by decide)
/-- the class: the ring's next tug takes what is now -/
theorem z_keepC {b x u : Nat} {κ : Nat → g_S} {h : q_H} (W : z_W b κ h) (hx : x < 20) (hu : u ≤ 20) (e1 : g_I (κ 8) 1 = nI x) (e2 : g_I (κ 8) 2 = nI u) :
    ∃ h' t', m_X2_keep h (b + 21) (b + 14) = some h' ∧ z_W b (va_up (va_up κ (20 + x) t') 8 (g_si (g_si (κ 8) 1 (nI ((x + 1) % 20))) 2 (nI (min 20 (u + 1))))) h' ∧ z_teq t' (κ 7) ∧ ∀ a, b + 152 ≤ a → h' a = h a := by
  have ea : q_ar h (b + 22) 6 (nI x) = some (some (b + 23 + 5 * x)) := by
    unfold q_ar
    rw [Wwr W]
    refine (if_pos ⟨rfl, show q_in (nI x) 20 from vp_in_nI hx (by decide)⟩).trans ?_
    rw [nI_clamp (by omega)]
    show some (if x < 20 then some (b + 23 + 5 * x) else none) = _
    rw [if_pos hx]
  have G := Wwt W x hx
  obtain ⟨h5, t', c1, c2, c3, c4⟩ := z_copy G (Ww7 W) (by omega)
  have W5 := W_r W hx c2 c3
  have k8 : va_up κ (20 + x) t' 8 = κ 8 := va_up_of (by omega)
  have G8 := Ww8 W5
  rw [k8] at G8
  obtain ⟨h7, p1, p2, p3⟩ := pi2_1 (nI ((x + 1) % 20)) G8
  have W7 := W_8 W5 p2 (by rw [k8]; rfl) p3
  obtain ⟨h9, q1, q2, q3⟩ := pi2_2 (nI (min 20 (u + 1))) p2
  have W9 := W_8 W7 (x := g_si (g_si (κ 8) 1 (nI ((x + 1) % 20))) 2 (nI (min 20 (u + 1)))) q2 (by rw [va_up_at]; rfl) q3
  have eu : va_up (va_up (va_up κ (20 + x) t') 8 (g_si (κ 8) 1 (nI ((x + 1) % 20)))) 8 (g_si (g_si (κ 8) 1 (nI ((x + 1) % 20))) 2 (nI (min 20 (u + 1)))) = va_up (va_up κ (20 + x) t') 8 (g_si (g_si (κ 8) 1 (nI ((x + 1) % 20))) 2 (nI (min 20 (u + 1)))) := bx_uu _ _ _ _
  rw [eu] at W9
  refine ⟨h9, t', ?_, W9, c4, fun a ha => ?_⟩
  · unfold m_X2_keep
    rw [show q_gn h (b + 21) 2 0 = some (b + 22) from gp2_0 (Ww8 W) (Wp8_0 W), Option.bind_some, gi2_1 (Ww8 W), Option.bind_some, e1, ea, Option.bind_some, Option.bind_some, ca10 G, c1, Option.bind_some, gi2_1 G8, Option.bind_some, e1, nI_1, z_m20 (by omega), p1, Option.bind_some, gi2_2 p2, Option.bind_some, z_si_In (by decide), e2, nI_1]
    have em : (if nI (u + 1) < (20 : Int32) then nI (u + 1) else (20 : Int32)) = nI (min 20 (u + 1)) := by
      by_cases c : u + 1 < 20
      · rw [if_pos (show nI (u + 1) < 20 from nI_lt (b := 20) c (by decide)), Nat.min_eq_right (by omega)]
      · rw [if_neg (show ¬ nI (u + 1) < 20 from nI_nlt (b := 20) (by omega) (by omega)), Nat.min_eq_left (by omega)]
        rfl
    rw [em, q1, Option.bind_some]
  · rw [q3 a (by unfold f2; omega), p3 a (by unfold f2; omega), c3 a (by unfold f10; omega)]
/-- the reference: what is now comes behind what was kept -/
theorem z_ka52 {s : Nat → Int32} {u : Nat} (hu : u < 20) : ∀ (m k fu : Nat) (σ : r_S), k + m = 42 → m < fu → r_A σ 20 = s → r_I σ 26 = nI u → ∃ w, t_X12_keepsAct_52 fu σ (nI k) = some (r_si (r_sa σ 25 w) 26 (nI (u + 1))) ∧ (∀ j, j < 42 * u + k ∨ 42 * u + 42 ≤ j → w j = r_A σ 25 j) ∧ ∀ j, k ≤ j → j < 42 → w (42 * u + j) = s (10 + j) := by
  intro m
  induction m with
  | zero =>
    intro k fu σ hk hf hs h26
    obtain ⟨fu, rfl⟩ := Nat.exists_eq_succ_of_ne_zero (show fu ≠ 0 by omega)
    refine ⟨r_A σ 25, ?_, fun _ _ => rfl, fun j h1 h2 => by omega⟩
    rw [t_X12_keepsAct_52, if_pos (show (42 : Int32) ≤ nI k from nI_le (a := 42) (by omega) (by omega))]
    try dsimp only
    rw [h26, nI_1, z_rsa_eta]
  | succ m ih =>
    intro k fu σ hk hf hs h26
    obtain ⟨fu, rfl⟩ := Nat.exists_eq_succ_of_ne_zero (show fu ≠ 0 by omega)
    obtain ⟨w, e1, e2, e3⟩ := ih (k + 1) fu (r_sa σ 25 (upd (r_A σ 25) (42 * u + k) (s (10 + k)))) (by omega) (by omega) (by rw [z_rAn (by decide)]; exact hs) h26
    rw [z_rA] at e2
    have ei : (42 : Int32) * nI u + nI k = nI (42 * u + k) := by rw [show (42 : Int32) = nI 42 from rfl, pk_mul, nI_add]
    refine ⟨w, ?_, fun j hj => ?_, fun j h1 h2 => ?_⟩
    · rw [t_X12_keepsAct_52, if_neg (show ¬ (42 : Int32) ≤ nI k from nI_ge (b := 42) (by omega) (by decide))]
      try dsimp only
      rw [h26, z_ix10, t_ai_in (by omega) (by decide), Option.bind_some, ei, t_si_in (by omega) (by decide), Option.bind_some, nI_1, hs, e1, z_rsa2]
    · rw [e2 j (by omega), pk_un (by omega)]
    · by_cases e : j = k
      · rw [e, e2 _ (by omega), pk_us]
      · exact e3 j (by omega) h2
theorem z_ka12 : ∀ (m k fu : Nat) (σ : r_S), k + m = 840 → 42 ≤ k → m < fu → r_I σ 26 = 20 → ∃ w, t_X12_keepsAct_12 fu σ (nI k) = t_X12_keepsAct_50 (r_si (r_sa σ 25 w) 26 (nI 19)) ∧ (∀ j, j < k - 42 ∨ 798 ≤ j → w j = r_A σ 25 j) ∧ ∀ j, k - 42 ≤ j → j < 798 → w j = r_A σ 25 (j + 42) := by
  intro m
  induction m with
  | zero =>
    intro k fu σ hk h42 hf h26
    obtain ⟨fu, rfl⟩ := Nat.exists_eq_succ_of_ne_zero (show fu ≠ 0 by omega)
    refine ⟨r_A σ 25, ?_, fun _ _ => rfl, fun j h1 h2 => by omega⟩
    rw [t_X12_keepsAct_12, if_pos (show (840 : Int32) ≤ nI k from nI_le (a := 840) (by omega) (by omega))]
    try dsimp only
    rw [h26, z_rsa_eta]
    rfl
  | succ m ih =>
    intro k fu σ hk h42 hf h26
    obtain ⟨fu, rfl⟩ := Nat.exists_eq_succ_of_ne_zero (show fu ≠ 0 by omega)
    obtain ⟨w, e1, e2, e3⟩ := ih (k + 1) fu (r_sa σ 25 (upd (r_A σ 25) (k - 42) (r_A σ 25 k))) (by omega) (by omega) (by omega) h26
    rw [z_rA] at e2 e3
    refine ⟨w, ?_, fun j hj => ?_, fun j h1 h2 => ?_⟩
    · rw [t_X12_keepsAct_12, if_neg (show ¬ (840 : Int32) ≤ nI k from nI_ge (b := 840) (by omega) (by decide)), t_ai_in (by omega) (by decide), Option.bind_some, show (42 : Int32) = nI 42 from rfl, pk_sub h42, t_si_in (by omega) (by decide), Option.bind_some, nI_1, e1, z_rsa2]
    · rw [e2 j (by omega), pk_un (by omega)]
    · by_cases e : j = k - 42
      · rw [e, e2 _ (by omega), pk_us]
        congr 1
        omega
      · rw [e3 j (by omega) h2, pk_un (by omega)]
theorem z_keepR {σ : r_S} {u : Nat} (hu : u ≤ 20) (h26 : r_I σ 26 = nI u) : ∃ w, t_X12_keepsAct σ = some (r_si (r_sa σ 25 w) 26 (nI (min 20 (u + 1)))) ∧ (∀ j, j < 42 → w (42 * (min 20 (u + 1) - 1) + j) = r_A σ 20 (10 + j)) ∧ (u < 20 → ∀ j, j < 42 * u → w j = r_A σ 25 j) ∧ (u = 20 → ∀ j, j < 798 → w j = r_A σ 25 (j + 42)) := by
  unfold t_X12_keepsAct
  try dsimp only
  by_cases c : u = 20
  · subst c
    obtain ⟨w1, a1, a2, a3⟩ := z_ka12 798 42 q_fu σ (by omega) (by omega) (by decide) h26
    obtain ⟨w, b1, b2, b3⟩ := z_ka52 (s := r_A σ 20) (u := 19) (by decide) 42 0 q_fu (r_si (r_sa σ 25 w1) 26 (nI 19)) (by omega) (by decide) (z_rAn (σ := σ) (by decide)) (z_rsiI _ _ _)
    refine ⟨w, ?_, fun j hj => b3 j (by omega) hj, fun h => by omega, fun _ j hj => ?_⟩
    · rw [h26, if_pos (show nI 20 = 20 from rfl)]
      refine a1.trans ?_
      unfold t_X12_keepsAct_50
      have ee : r_si (r_sa (r_si (r_sa σ 25 w1) 26 (nI 19)) 25 w) 26 (nI (19 + 1)) = r_si (r_sa σ 25 w) 26 (nI (19 + 1)) := by
        unfold r_si r_sa
        simp only [bx_uu]
      rw [ee] at b1
      exact b1
    · rw [b2 j (by omega), show r_A (r_si (r_sa σ 25 w1) 26 (nI 19)) 25 = w1 from z_rA _ _ _, a3 j (by omega) hj]
  · obtain ⟨w, b1, b2, b3⟩ := z_ka52 (s := r_A σ 20) (u := u) (by omega) 42 0 q_fu σ (by omega) (by decide) rfl h26
    have em : min 20 (u + 1) = u + 1 := Nat.min_eq_right (by omega)
    rw [em]
    refine ⟨w, ?_, fun j hj => b3 j (by omega) hj, fun _ j hj => b2 j (by omega), fun h => absurd h c⟩
    rw [h26, if_neg (show ¬ nI u = 20 from fun e => c ((nI_eq (b := 20) (by omega) (by decide)).mp e))]
    exact b1
/-- both -/
theorem z_act {b z c n po : Nat} {o : g_S} {κ : Nat → g_S} {σ : r_S} {h : q_H} (J : z_J b z c κ σ h) (X : z_X b n po c o κ σ h) :
    ∃ h1 κ1 σ1, m_X2_keep h (b + 21) (b + 14) = some h1 ∧ t_X12_keepsAct σ = some σ1 ∧ z_W b κ1 h1 ∧ (∀ a, b + 152 ≤ a → h1 a = h a) ∧ (∀ k, k ≠ 8 → k < 20 → κ1 k = κ k) ∧ (∀ k, k ≠ 25 → r_A σ1 k = r_A σ k) ∧ (∀ k, k ≠ 26 → r_I σ1 k = r_I σ k) ∧ z_JP (κ1 8) (fun i => κ1 (20 + i)) (r_A σ1 20) (r_A σ1 25) (r_I σ1 26) := by
  have W := X.1
  have hR := X.2.2.2.2.2.1
  have hV := X.2.2.2.2.2.2.1
  have ht := X.2.2.2.2.2.2.2.1
  have hb := X.2.2.2.2.2.2.2.2.1
  have hn := hR.1
  obtain ⟨u, x, u1, u2, u3, u4, u5, u6⟩ := J.2.2.2.2.2.1
  obtain ⟨h1, t', c1, c2, c3, c4⟩ := z_keepC W u2 u1 u3 u4
  obtain ⟨w, d1, d2, d3, d4⟩ := z_keepR u1 u5
  have em : min 20 (u + 1) = if u < 20 then u + 1 else 20 := by
    by_cases e : u < 20
    · rw [if_pos e]; omega
    · rw [if_neg e]; omega
  have hw : r_A (r_si (r_sa σ 25 w) 26 (nI (min 20 (u + 1)))) 25 = w := z_rA _ _ _
  have hs : r_A (r_si (r_sa σ 25 w) 26 (nI (min 20 (u + 1)))) 20 = r_A σ 20 := z_rAn (σ := σ) (by decide)
  have k8 : (va_up (va_up κ (20 + x) t') 8 (g_si (g_si (κ 8) 1 (nI ((x + 1) % 20))) 2 (nI (min 20 (u + 1))))) 8 = g_si (g_si (κ 8) 1 (nI ((x + 1) % 20))) 2 (nI (min 20 (u + 1))) := va_up_at _ _ _
  refine ⟨h1, _, _, c1, d1, c2, c4, fun k hk8 hk => (va_up_of hk8).trans (va_up_of (by omega)), fun k hk => z_rAn (σ := σ) hk, fun k hk => z_rsiIn hk, min 20 (u + 1), (x + 1) % 20, by omega, by omega, ?_, ?_, z_rsiI _ _ _, fun _ => ⟨n, by rw [hs]; exact hR, fun i hi => ?_⟩⟩
  · rw [k8, z_si_In (by decide), z_si_I]
  · rw [k8, z_si_I]
  · rw [hs, hw]
    have top : ∀ i, i = min 20 (u + 1) - 1 → ∀ j, 10 ≤ j → j < 52 → z_ws (r_A σ 20) w i j = r_A σ 20 j := fun i hi j h1 h2 => by
      unfold z_ws
      rw [if_pos ⟨h1, h2⟩, hi, d2 (j - 10) (by omega)]
      congr 1
      omega
    have kr : ∀ q, q < 20 → (va_up (va_up κ (20 + x) t') 8 (g_si (g_si (κ 8) 1 (nI ((x + 1) % 20))) 2 (nI (min 20 (u + 1))))) (20 + q) = if q = x then t' else κ (20 + q) := fun q hq => by
      rw [va_up_of (by omega)]
      by_cases e : q = x
      · rw [e, va_up_at, if_pos rfl]
      · rw [va_up_of (by omega), if_neg e]
    show z_t ((va_up (va_up κ (20 + x) t') 8 (g_si (g_si (κ 8) 1 (nI ((x + 1) % 20))) 2 (nI (min 20 (u + 1))))) (20 + ((x + 1) % 20 + 20 - min 20 (u + 1) + i) % 20)) _ n ∧ _
    rw [kr _ (Nat.mod_lt _ (by decide))]
    by_cases last : i = min 20 (u + 1) - 1
    · have e := top i last
      rw [if_pos (show ((x + 1) % 20 + 20 - min 20 (u + 1) + i) % 20 = x by omega)]
      exact ⟨z_tx hn e (z_teq_t hn c3 ht), z_Vx hn (fun j h1 h2 => e j (by omega) h2) hV, by rw [e 10 (by omega) (by omega)]; exact hb⟩
    · rw [if_neg (show ¬ ((x + 1) % 20 + 20 - min 20 (u + 1) + i) % 20 = x by omega)]
      by_cases c20 : u = 20
      · obtain ⟨n', y1, y2⟩ := u6 (by omega)
        have hnn : n' = n := by
          have q1 := y1.2.2.1
          have q2 := hR.2.2.1
          have := y1.1
          exact (nI_eq (by omega) (by omega)).mp (q1.symm.trans q2)
        rw [hnn] at y2
        obtain ⟨z1, z2, z3⟩ := y2 (i + 1) (by omega)
        have e : ∀ j, 10 ≤ j → j < 52 → z_ws (r_A σ 20) w i j = z_ws (r_A σ 20) (r_A σ 25) (i + 1) j := fun j h1 h2 => by
          unfold z_ws
          rw [if_pos ⟨h1, h2⟩, if_pos ⟨h1, h2⟩, d4 c20 _ (by omega)]
          congr 1
          omega
        rw [show (x + 20 - u + (i + 1)) % 20 = ((x + 1) % 20 + 20 - min 20 (u + 1) + i) % 20 by omega] at z1
        exact ⟨z_tx hn e z1, z_Vx hn (fun j h1 h2 => e j (by omega) h2) z2, by rw [e 10 (by omega) (by omega)]; exact z3⟩
      · obtain ⟨n', y1, y2⟩ := u6 (by omega)
        have hnn : n' = n := by
          have q1 := y1.2.2.1
          have q2 := hR.2.2.1
          have := y1.1
          exact (nI_eq (by omega) (by omega)).mp (q1.symm.trans q2)
        rw [hnn] at y2
        obtain ⟨z1, z2, z3⟩ := y2 i (by omega)
        have e : ∀ j, 10 ≤ j → j < 52 → z_ws (r_A σ 20) w i j = z_ws (r_A σ 20) (r_A σ 25) i j := fun j h1 h2 => by
          unfold z_ws
          rw [if_pos ⟨h1, h2⟩, if_pos ⟨h1, h2⟩, d3 (by omega) _ (by omega)]
        rw [show (x + 20 - u + i) % 20 = ((x + 1) % 20 + 20 - min 20 (u + 1) + i) % 20 by omega] at z1
        exact ⟨z_tx hn e z1, z_Vx hn (fun j h1 h2 => e j (by omega) h2) z2, by rw [e 10 (by omega) (by omega)]; exact z3⟩
