/-! ===== L3: what closes ===== -/
theorem z_d1_0 {w : Nat → Nat} : ∀ n, z_d1 w n = 0 ↔ ∀ i, i < n → w i ≠ 1
  | 0 => ⟨fun _ i hi => absurd hi (Nat.not_lt_zero _), fun _ => rfl⟩
  | n + 1 => by
    have ih := z_d1_0 (w := w) n
    rw [z_d1]
    by_cases h : w n = 1
    · rw [if_pos h]
      exact ⟨fun e => by omega, fun e => absurd h (e n (Nat.lt_succ_self n))⟩
    · rw [if_neg h, Nat.add_zero, ih]
      refine ⟨fun e i hi => ?_, fun e i hi => e i (by omega)⟩
      by_cases c : i = n
      · rw [c]; exact h
      · exact e i (by omega)
theorem z_d1_mono {w : Nat → Nat} {m : Nat} : ∀ n, m ≤ n → z_d1 w m ≤ z_d1 w n
  | 0, h => by
    have : m = 0 := by omega
    rw [this]; exact Nat.le_refl _
  | n + 1, h => by
    by_cases e : m = n + 1
    · rw [e]; exact Nat.le_refl _
    · have := z_d1_mono (w := w) n (show m ≤ n by omega)
      rw [show z_d1 w (n + 1) = z_d1 w n + (if w n = 1 then 1 else 0) from rfl]
      omega
theorem z_bn_mono {w : Nat → Nat} {m : Nat} : ∀ n, m ≤ n → z_bn w m ≤ z_bn w n
  | 0, h => by
    have : m = 0 := by omega
    rw [this]; exact Nat.le_refl _
  | n + 1, h => by
    by_cases e : m = n + 1
    · rw [e]; exact Nat.le_refl _
    · have := z_bn_mono (w := w) n (show m ≤ n by omega)
      rw [show z_bn w (n + 1) = z_bn w n + (if w n = 2 ∨ w n = 3 then 1 else 0) from rfl]
      omega
theorem z_se2 {w : Nat → Nat} : ∀ n, (∀ i, i < n → 1 ≤ w i) → z_d1 w (z_se w 2 n) = z_d1 w n ∧ (z_se w 2 n = 0 ↔ z_d1 w n = 0)
  | 0, _ => ⟨rfl, ⟨fun _ => rfl, fun _ => rfl⟩⟩
  | n + 1, h => by
    have ih := z_se2 n (fun i hi => h i (by omega))
    have := h n (Nat.lt_succ_self n)
    rw [z_se, z_d1]
    by_cases c : 2 ≤ w n
    · rw [if_pos c, if_neg (by omega)]
      exact ih
    · rw [if_neg c, if_pos (show w n = 1 by omega), z_d1, if_pos (show w n = 1 by omega)]
      exact ⟨rfl, ⟨fun e => by omega, fun e => by omega⟩⟩
theorem z_inside {σ : r_S} {w : Nat → Nat} {n : Nat} (B : z_w2 σ w n) (H : z_wv w n) (hn : n ≤ 400) : t_X12_isInside σ = some (if z_d1 w n = 0 then 0 else 1) := by
  have main : ∀ (u x fu : Nat), x + u = n → u < fu → (∀ i, i < x → w i ≠ 1) → t_X12_isInside_2 fu σ (nI x) = some (if z_d1 w n = 0 then 0 else 1) := by
    intro u
    induction u with
    | zero =>
      intro x fu hx hf h
      obtain ⟨fu, rfl⟩ := Nat.exists_eq_succ_of_ne_zero (show fu ≠ 0 by omega)
      rw [t_X12_isInside_2]
      try dsimp only
      rw [B.1, if_pos (nI_le (by omega) (by omega)), if_pos ((z_d1_0 n).mpr (fun i hi => h i (by omega)))]
    | succ u ih =>
      intro x fu hx hf h
      obtain ⟨fu, rfl⟩ := Nat.exists_eq_succ_of_ne_zero (show fu ≠ 0 by omega)
      rw [t_X12_isInside_2]
      try dsimp only
      rw [B.1, if_neg (nI_ge (by omega) (by omega)), t_ai_in (by omega) (by decide), Option.bind_some, B.2.1 x (by omega)]
      obtain ⟨h1, h4⟩ := H.1 x (by omega)
      by_cases c : w x = 1
      · rw [if_pos (show nI (z_wc (w x)) = 91 by rw [c]; rfl), if_neg (fun e => (z_d1_0 n).mp e x (by omega) c)]
      · rw [if_neg (fun e => ?_), nI_1]
        · exact ih (x + 1) fu (by omega) (by omega) (fun i hi => by
            by_cases c' : i = x
            · rw [c']; exact c
            · exact h i (by omega))
        · have : w x = 2 ∨ w x = 3 ∨ w x = 4 := by omega
          rcases this with h | h | h <;> rw [h] at e <;> exact absurd e (by decide)
  exact main n 0 q_fu (by omega) (by show n < 5000; omega) (fun i hi => absurd hi (Nat.not_lt_zero _))
theorem z_tQ_so {j : g_S} {σ σ' : r_S} {r c0 c m n : Nat} {K V w : Nat → Nat} (Q : z_tQ j σ r c0 c m n K V w) (S : z_so σ σ') : z_tQ j σ' r c0 c m n K V w := by
  obtain ⟨q1, q2, q3, q4, q5, q6, q7⟩ := Q
  exact ⟨z_cj_so q1 S, q2, z_w2_f1 q3 (z_f1_so r S), q4, q5, q6, q7⟩
theorem z_setB {cl : Nat} (h2 : 2 ≤ cl) (h4 : cl ≤ 4) {j : g_S} {σ : r_S} {r c0 c m n : Nat} {K V w : Nat → Nat} (Q : z_tQ j σ r c0 c m n K V w) (hc : c + n ≤ 400) :
    ∃ j' σ' c' K' V', t_X7_settle j (nI cl) = some j' ∧ t_X12_layDown σ (nI (cl - 1)) = some σ' ∧ z_tQ j' σ' r c0 c' m (z_se w cl n) K' V' w ∧ c' + z_se w cl n ≤ c + n ∧ c ≤ c' ∧ z_f3 r σ σ' ∧ z_f4 j j' ∧ r_I σ' 8 = r_I σ 8 ∧ r_I σ' 9 = r_I σ 9 ∧ (∀ q, q < c → K' q = K q ∧ V' q = V q) ∧ (cl = 4 → ∀ c2, c2 ≤ 4 → t_X7_settle j (nI c2) = t_X7_settle j' (nI c2)) := by
  obtain ⟨q1, q2, q3, q4, q5, q6, q7⟩ := Q
  have h32 := z_w32 q4 q5
  have hse := z_se_le w cl n
  obtain ⟨j', σ', c', K', V', x1, x2, x3, x4, x5, x6, x7, x8, x9, x10, x11, x12, x13⟩ := z_setS (r := r) (c0 := c0) (m := m) (cl := cl) (w := w) h2 h4 n q_fu c j σ K V q1 q2 q3 q4.1 q6 hc (by show n < 5000; omega)
  have eq : ∀ c2, c2 ≤ 4 → t_X7_settle j (nI c2) = z_js w c2 n j := fun c2 h => z_js_eq h n q_fu j (by omega) (by show n < 5000; omega) (fun i hi => (q4.1 i hi).2) q2.1 q2.2.1
  have eq' : ∀ c2, c2 ≤ 4 → t_X7_settle j' (nI c2) = z_js w c2 (z_se w cl n) j' := fun c2 h => z_js_eq h (z_se w cl n) q_fu j' (by omega) (by show _ < 5000; omega) (fun i hi => (q4.1 i (by omega)).2) x4.1 x4.2.1
  refine ⟨j', σ', c', K', V', (eq cl h4).trans x1, x2, ⟨x3, x4, x5, z_wv_le hse q4, ?_, x6, ?_⟩, x7, x8, x9, x10, x11, x12, x13, fun e c2 hc2 => ?_⟩
  · have := z_dp_le (w := w) n hse
    omega
  · have := z_bn_mono (w := w) n hse
    omega
  · subst e
    rw [eq c2 hc2, eq' c2 hc2, z_js_4 hc2, x1, Option.bind_some]
section CL
variable {f : Nat → Int32} {N r c0 m : Nat} {w : Nat → Nat}
theorem z_y400 {d : g_S} {σ : r_S} {k p i : Nat} (Y : z_y d σ f N k p i) : k ≤ 400 := by
  obtain ⟨T', mm, q1, q2, q3, q4, -⟩ := Y.2.2.2.2.1
  omega
theorem z_closeL : ∀ (u x fu fu' k p i c n : Nat) (K V : Nat → Nat) (j jv d : g_S) (σ : r_S), z_d1 w n ≤ u → x + u ≤ 10 → u < fu → u < fu' → z_tS jv d σ f N r c0 k p i c m n K V w → t_X7_settle j 2 = t_X7_settle jv 2 → t_X7_settle j 3 = t_X7_settle jv 3 →
    ∃ j' jv' d' σ' k' p' i' c' n' K' V', t_X7_closeAll_2 fu j d (nI x) = some (j', d') ∧ t_X12_closes_5 fu' σ = some σ' ∧ z_tS jv' d' σ' f N r c0 k' p' i' c' m n' K' V' w ∧ t_X7_settle j' 2 = t_X7_settle jv' 2 ∧ (z_k1 f N p' = 93 ∨ t_X7_settle j' 3 = t_X7_settle jv' 3) ∧ c ≤ c' ∧ z_f3 r σ σ' ∧ z_f4 jv jv' ∧ g_P d' = g_P d ∧ ∀ q, q < c → K' q = K q ∧ V' q = V q := by
  intro u
  induction u with
  | zero =>
    intro x fu fu' k p i c n K V j jv d σ hu hx hf hf' S e2 e3
    obtain ⟨fu, rfl⟩ := Nat.exists_eq_succ_of_ne_zero (show fu ≠ 0 by omega)
    obtain ⟨fu', rfl⟩ := Nat.exists_eq_succ_of_ne_zero (show fu' ≠ 0 by omega)
    obtain ⟨Y, Q, hc⟩ := S
    have hk := z_y400 Y
    have es := z_y_see Y
    have Y0 := z_y_nx Y
    obtain ⟨k6, -, hp⟩ := z_rr_k Y.2.2.2.2.1
    have kl := z_k1_lt f N p
    have s93 := z_sign (f := f) (N := N) (p := p) (c := 93) (by decide) (by omega) (by decide)
    have Q0 := z_tQ_so Q (z_so_nx σ p)
    have h0 : z_d1 w n = 0 := by omega
    have eR : t_X12_closes_5 (fu' + 1) σ = some (z_nx σ p) := by
      rw [t_X12_closes_5, es, Option.bind_some]
      try dsimp only
      by_cases c93 : z_k1 f N p = 93
      · rw [if_pos (show (if p < N then nI (z_u f p) else (-1 : Int32)) = (93 : Int32) from s93.mpr c93), z_inside Q0.2.2.1 Q0.2.2.2.1 (by omega), if_pos h0, Option.bind_some]
        exact if_pos rfl
      · rw [if_neg (show ¬ (if p < N then nI (z_u f p) else (-1 : Int32)) = (93 : Int32) from fun e => c93 (s93.mp e))]
    have x10 : ¬ (10 : Int32) < nI x := nI_nlt (a := 10) (by omega) (by decide)
    by_cases c93 : z_k1 f N p = 93
    · obtain ⟨j2, σ2, c2, K2, V2, b1, b2, b3, b4, b5, b6, b7, b8, b9, b10, b11⟩ := z_setB (cl := 2) (by decide) (by decide) Q (by omega)
      have n0 : z_se w 2 n = 0 := (z_se2 n (fun i hi => (Q.2.2.2.1.1 i hi).1)).2.mpr h0
      have i6 : g_I j2 6 = 0 := by rw [b3.2.1.1, n0]; rfl
      have bj : t_X7_settle j2 2 = some j2 := by
        unfold t_X7_settle q_fu
        rw [t_X7_settle_0]
        try dsimp only
        rw [i6]
        exact if_pos (by decide)
      have b1' : t_X7_settle jv 2 = some j2 := b1
      refine ⟨j2, jv, d, z_nx σ p, k, p, p, c, n, K, V, ?_, eR, ⟨Y0, Q0, hc⟩, ?_, Or.inl c93, Nat.le_refl _, z_f3_1 (z_f1_so r (z_so_nx σ p)), z_f4_refl _, rfl, fun _ _ => ⟨rfl, rfl⟩⟩
      · rw [t_X7_closeAll_2, if_neg x10]
        try dsimp only
        rw [if_pos Y.2.2.2.2.2.1, k6, if_pos (show nI (z_k1 f N p) = (93 : Int32) by rw [c93]; rfl), e2, b1', Option.bind_some, if_pos i6]
      · rw [bj, b1']
    · refine ⟨j, jv, d, z_nx σ p, k, p, p, c, n, K, V, ?_, eR, ⟨Y0, Q0, hc⟩, e2, Or.inr e3, Nat.le_refl _, z_f3_1 (z_f1_so r (z_so_nx σ p)), z_f4_refl _, rfl, fun _ _ => ⟨rfl, rfl⟩⟩
      rw [t_X7_closeAll_2, if_neg x10]
      try dsimp only
      rw [if_pos Y.2.2.2.2.2.1, k6, if_neg (show ¬ nI (z_k1 f N p) = (93 : Int32) from fun e => c93 ((nI_eq (b := 93) (by omega) (by decide)).mp e))]
  | succ u ih =>
    intro x fu fu' k p i c n K V j jv d σ hu hx hf hf' S e2 e3
    by_cases hin : z_d1 w n ≤ u ∧ z_k1 f N p ≠ 93
    · obtain ⟨fu, rfl⟩ := Nat.exists_eq_succ_of_ne_zero (show fu ≠ 0 by omega)
      obtain ⟨fu', rfl⟩ := Nat.exists_eq_succ_of_ne_zero (show fu' ≠ 0 by omega)
      exact ih x (fu + 1) (fu' + 1) k p i c n K V j jv d σ hin.1 (by omega) (by omega) (by omega) S e2 e3
    obtain ⟨fu, rfl⟩ := Nat.exists_eq_succ_of_ne_zero (show fu ≠ 0 by omega)
    obtain ⟨fu', rfl⟩ := Nat.exists_eq_succ_of_ne_zero (show fu' ≠ 0 by omega)
    have S' := S
    obtain ⟨Y, Q, hc⟩ := S
    have hk := z_y400 Y
    have es := z_y_see Y
    have Y0 := z_y_nx Y
    obtain ⟨k6, -, hp⟩ := z_rr_k Y.2.2.2.2.1
    have kl := z_k1_lt f N p
    have s93 := z_sign (f := f) (N := N) (p := p) (c := 93) (by decide) (by omega) (by decide)
    have Q0 := z_tQ_so Q (z_so_nx σ p)
    have x10 : ¬ (10 : Int32) < nI x := nI_nlt (a := 10) (by omega) (by decide)
    by_cases c93 : z_k1 f N p = 93
    · by_cases h0 : z_d1 w n = 0
      · exact ih x (fu + 1) (fu' + 1) k p i c n K V j jv d σ (by omega) (by omega) (by omega) (by omega) S' e2 e3
      · -- a bracket closes
        obtain ⟨j2, σ2, c2, K2, V2, b1, b2, b3, b4, b5, b6, b7, b8, b9, b10, b11⟩ := z_setB (cl := 2) (by decide) (by decide) Q0 (by omega)
        obtain ⟨s1, s2⟩ := z_se2 (w := w) n (fun i hi => (Q.2.2.2.1.1 i hi).1)
        obtain ⟨n3, hn3⟩ : ∃ n3, z_se w 2 n = n3 + 1 := ⟨z_se w 2 n - 1, by have : z_se w 2 n ≠ 0 := fun e => h0 (s2.mp e); omega⟩
        have top := z_se_top w 2 n
        have hle := z_se_le w 2 n
        rw [hn3] at b3 b4 top s1 hle
        obtain ⟨q1, q2, q3, q4, q5, q6, q7⟩ := b3
        have w3 : w n3 = 1 := by
          have := (q4.1 n3 (Nat.lt_succ_self n3)).1
          rcases top with h | h
          · omega
          · rw [Nat.add_sub_cancel] at h
            omega
        have b1' : t_X7_settle j 2 = some j2 := e2.trans b1
        have b2' : t_X12_layDown (z_nx σ p) 1 = some σ2 := b2
        have eD : z_dp w (n3 + 1) = z_dp w n3 + 1 := by rw [z_dp, if_pos (Or.inl w3)]
        have eB : z_bn w (n3 + 1) = z_bn w n3 := by rw [z_bn, if_neg (by omega)]; rfl
        have e1 : z_d1 w (n3 + 1) = z_d1 w n3 + 1 := by rw [z_d1, if_pos w3]
        have one : ∀ a, nI (a + 1) - 1 = nI a := fun a => by rw [show (1 : Int32) = nI 1 from rfl, pk_sub (by omega), Nat.add_sub_cancel]
        obtain ⟨j4, hj4⟩ : ∃ j4, j4 = g_si (g_si j2 6 (nI n3)) 7 (nI (z_dp w n3)) := ⟨_, rfl⟩
        obtain ⟨σ4, hσ4⟩ : ∃ σ4, σ4 = r_si (r_si σ2 16 (nI n3)) 13 (nI (z_dp w n3)) := ⟨_, rfl⟩
        have F4 : z_f3 r (z_nx σ p) σ4 := by
          rw [hσ4]
          exact z_f3_trans b6 (z_f3_trans (z_f3_si _ (by omega) _) (z_f3_si _ (by omega) _))
        have i8 : r_I σ4 8 = nI p := by
          rw [hσ4, z_rsiIn (by decide), z_rsiIn (by decide), b8, z_nx8]
        have i9 : r_I σ4 9 = r_I (z_nx σ p) 9 := by
          rw [hσ4, z_rsiIn (by decide), z_rsiIn (by decide), b9]
        have Y4 : z_y d σ4 f N k p p := z_y_f3 Y0 F4 (by rw [i8, z_nx8]) i9
        obtain ⟨-, -, d5, m1, m2, m3⟩ := z_pass1 Y4 c93 (by omega)
        have Q4 : z_tQ j4 σ4 r c0 c2 m n3 K2 V2 w := by
          rw [hj4, hσ4]
          refine ⟨z_cj_w q1 ?_ ?_ rfl ?_ ?_ rfl rfl, ⟨?_, fun i hi => q2.2.1 i (by omega), z_si_I _ _ _⟩, ⟨?_, fun i hi => q3.2.1 i (by omega), z_rsiI _ _ _⟩, z_wv_le (by omega) q4, by omega, by rw [eB] at q6; exact q6, by omega⟩
          · rw [z_si_In (by decide), z_si_In (by decide)]
          · rw [z_si_In (by decide), z_si_In (by decide)]
          · rw [z_rsiIn (by decide), z_rsiIn (by decide)]
          · rw [z_rsiIn (by decide), z_rsiIn (by decide)]
          · rw [z_si_In (by decide), z_si_I]
          · rw [z_rsiIn (by decide), z_rsiI]
        obtain ⟨jv', σ6, c6, K6, V6, g1, g2, g3, g4, g5, g6, g7, g8, g9, g10, g11⟩ := z_setB (cl := 4) (by decide) (by decide) (z_tQ_so Q4 (z_so_nx σ4 (p + 1))) (by omega)
        have hle4 := z_se_le w 4 n3
        have dm := z_d1_mono (w := w) n3 hle4
        obtain ⟨j', jw, d', σ', k', p', i', c', n', K', V', x1, x2, x3, x4, x5, x6, x7, x8, x9, x10'⟩ := ih (x + 1) fu fu' (k + 1) _ _ c6 (z_se w 4 n3) K6 V6 j4 jv' d5 σ6 (by omega) (by omega) (by omega) (by omega) ⟨z_y_f3 m2 g6 g8 g9, g3, by omega⟩ (g11 rfl 2 (by decide)) (g11 rfl 3 (by decide))
        refine ⟨j', jw, d', σ', k', p', i', c', n', K', V', ?_, ?_, x3, x4, x5, by omega, ?_, ?_, x9.trans m3, fun q hq => ?_⟩
        · rw [t_X7_closeAll_2, if_neg x10]
          try dsimp only
          rw [if_pos Y.2.2.2.2.2.1, k6, if_pos (show nI (z_k1 f N p) = (93 : Int32) by rw [c93]; rfl), b1', Option.bind_some, q2.1, if_neg (nI_ne0 (by omega) (by omega)), one, z_si_In (by decide), q2.2.2, eD, one, ← hj4, m1, Option.bind_some, nI_1]
          exact x1
        · rw [t_X12_closes_5, es, Option.bind_some]
          try dsimp only
          rw [if_pos (show (if p < N then nI (z_u f p) else (-1 : Int32)) = (93 : Int32) from s93.mpr c93), z_inside Q0.2.2.1 Q0.2.2.2.1 (by omega), if_neg h0, Option.bind_some, if_neg (by decide), b2', Option.bind_some, q3.1, one, z_rsiIn (by decide), q3.2.2, eD, one, ← hσ4, i8, nI_1]
          rw [show r_si σ4 8 (nI (p + 1)) = z_nx σ4 (p + 1) from rfl, show t_X12_layDown (z_nx σ4 (p + 1)) 3 = some σ6 from g2, Option.bind_some]
          exact x2
        · exact z_f3_trans (z_f3_1 (z_f1_so r (z_so_nx σ p))) (z_f3_trans F4 (z_f3_trans (z_f3_1 (z_f1_so r (z_so_nx _ _))) (z_f3_trans g6 x7)))
        · refine z_f4_trans b7 (z_f4_trans ?_ (z_f4_trans g7 x8))
          rw [hj4]
          exact z_f4_trans (z_f4_si _ (by omega) _) (z_f4_si _ (by omega) _)
        · obtain ⟨u1, u2⟩ := x10' q (by omega)
          obtain ⟨u3, u4⟩ := g10 q (by omega)
          obtain ⟨u5, u6⟩ := b10 q hq
          exact ⟨u1.trans (u3.trans u5), u2.trans (u4.trans u6)⟩
    · refine ⟨j, jv, d, z_nx σ p, k, p, p, c, n, K, V, ?_, ?_, ⟨Y0, Q0, hc⟩, e2, Or.inr e3, Nat.le_refl _, z_f3_1 (z_f1_so r (z_so_nx σ p)), z_f4_refl _, rfl, fun _ _ => ⟨rfl, rfl⟩⟩
      · rw [t_X7_closeAll_2, if_neg x10]
        try dsimp only
        rw [if_pos Y.2.2.2.2.2.1, k6, if_neg (show ¬ nI (z_k1 f N p) = (93 : Int32) from fun e => c93 ((nI_eq (b := 93) (by omega) (by decide)).mp e))]
      · rw [t_X12_closes_5, es, Option.bind_some]
        try dsimp only
        rw [if_neg (show ¬ (if p < N then nI (z_u f p) else (-1 : Int32)) = (93 : Int32) from fun e => c93 (s93.mp e))]
end CL
