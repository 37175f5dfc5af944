theorem z_lg {x y : Int64} : lg_cmp x y = 0 ↔ x = y := by
  unfold lg_cmp
  by_cases h : x > y
  · rw [if_pos h]
    refine ⟨fun e => absurd e (by decide), fun e => ?_⟩
    rw [e] at h
    exact absurd h (Int64.lt_irrefl)
  · rw [if_neg h]
    by_cases h2 : x = y
    · rw [if_pos h2]
      exact ⟨fun _ => h2, fun _ => rfl⟩
    · rw [if_neg h2]
      exact ⟨fun e => absurd e (by decide), fun e => absurd e h2⟩
theorem z_kk_eta (k : g_S) : g_sl k 0 (g_L k 0) = k := by
  unfold g_sl g_L
  simp only [va_up_eta]
/-- a SUM or a TEST by itself -/
theorem z_seg {K V : Nat → Nat} {u w k : g_S} {σ : r_S} {r N i to : Nat} {c : Bool} (hu : g_N u 0 = N) (hN : N ≤ 400) (hto : to ≤ N) (hit : i ≤ to) (hk0 : g_N k 0 = 64) (hw : g_N w 0 = 11) (hr : r < 6) (hc : ∀ i, i < N → g_A u 0 i = nI (K i + 32 * V i) ∧ z_ok (K i) (V i) ∧ r_A σ 3 (400 * r + i) = nI (z_cv (K i) + 16 * V i)) (hwd : ∀ j, j < 11 → g_L w 0 j = r_L σ 19 j) (hty : z_ty K (to - i) i [] = some [c]) :
    ∃ x f g, t_X6_evaluate u w k (nI i) (nI to) = some (x, g_sl k 0 f) ∧ t_X12_reckons σ (nI r) (nI i) (nI to) = some (x, z_sc σ g 0) ∧ (c = true → x = 0 ∨ x = 1) := by
  obtain ⟨f, g, e1, e2, e3, e4, e5⟩ := z_eval hu hN hto hk0 hw hr hc hwd (to - i) i [] [c] (g_L k 0) (r_L σ 17) q_fu q_fu (by omega) (by show to - i < 5000; omega) (by show to - i < 5000; omega) hty (by decide) (fun j hj => absurd hj (Nat.not_lt_zero _)) trivial
  rw [z_kk_eta] at e1
  refine ⟨g 0, f, g, ?_, ?_, fun h => e4.1 h⟩
  · unfold t_X6_evaluate
    refine e1.trans ?_
    unfold t_X6_evaluate_180
    rw [show (0 : Int32) = nI 0 from rfl, z_kget hk0 (by decide), e3 0 Nat.zero_lt_one]
    rfl
  · unfold t_X12_reckons
    have e : r_si σ 18 0 = z_sc σ (r_L σ 17) (nI 0) := by
      have := z_sc_0 σ (r_L σ 17) (r_I σ 18) 0
      rw [z_sc_eta] at this
      exact this
    dsimp only
    rw [e]
    refine e2.trans ?_
    exact z_pop (l := 0) (by decide)
/-- a RULE of the class and RULE r of the reference are the same -/
def z_rl (b : g_S) (σ : r_S) (r : Nat) : Prop := ∃ (K V a m : Nat → Nat) (C N : Nat), C ≤ 12 ∧ N ≤ 400 ∧ g_N b 0 = N ∧ g_N b 1 = 2 * C + 1 ∧ r_A σ 6 r = nI C ∧
  (∀ i, i < N → g_A b 0 i = nI (K i + 32 * V i) ∧ z_ok (K i) (V i) ∧ r_A σ 3 (400 * r + i) = nI (z_cv (K i) + 16 * V i)) ∧
  (∀ c, c < C → a c ≤ m c ∧ m c ≤ a (c + 1) ∧ a (c + 1) ≤ N ∧ g_A b 1 (2 * c) = nI (a c) ∧ g_A b 1 (2 * c + 1) = nI (m c) ∧ g_A b 1 (2 * c + 2) = nI (a (c + 1)) ∧ r_A σ 5 (48 * r + 4 * c) = nI (a c) ∧ r_A σ 5 (48 * r + 4 * c + 1) = nI (m c) ∧ z_ty K (m c - a c) (a c) [] = some [false] ∧
    ((m c = a (c + 1) ∧ r_A σ 5 (48 * r + 4 * c + 2) = -1) ∨ (m c < a (c + 1) ∧ r_A σ 5 (48 * r + 4 * c + 2) = nI (m c) ∧ r_A σ 5 (48 * r + 4 * c + 3) = nI (a (c + 1)) ∧ z_ty K (a (c + 1) - m c) (m c) [] = some [true])))
theorem z_rl_ext {b : g_S} {σ σ' : r_S} {r : Nat} (h : z_rl b σ r) (h3 : ∀ i, i < 400 → r_A σ' 3 (400 * r + i) = r_A σ 3 (400 * r + i)) (h5 : ∀ i, i < 48 → r_A σ' 5 (48 * r + i) = r_A σ 5 (48 * r + i)) (h6 : r_A σ' 6 r = r_A σ 6 r) : z_rl b σ' r := by
  obtain ⟨K, V, a, m, C, N, q1, q2, q3, q4, q5, q6, q7⟩ := h
  refine ⟨K, V, a, m, C, N, q1, q2, q3, q4, h6.trans q5, fun i hi => ⟨(q6 i hi).1, (q6 i hi).2.1, (h3 i (by omega)).trans (q6 i hi).2.2⟩, fun c hc => ?_⟩
  obtain ⟨p1, p2, p3, p4, p5, p6, p7, p8, p9, p10⟩ := q7 c hc
  refine ⟨p1, p2, p3, p4, p5, p6, (h5 (4 * c) (by omega)).trans p7, (h5 (4 * c + 1) (by omega)).trans p8, p9, ?_⟩
  rcases p10 with ⟨y1, y2⟩ | ⟨y1, y2, y3, y4⟩
  · exact Or.inl ⟨y1, (h5 (4 * c + 2) (by omega)).trans y2⟩
  · exact Or.inr ⟨y1, (h5 (4 * c + 2) (by omega)).trans y2, (h5 (4 * c + 3) (by omega)).trans y3, y4⟩
theorem z_ix48 (r c : Nat) : (48 : Int32) * nI r + 4 * nI c = nI (48 * r + 4 * c) := by
  rw [show (48 : Int32) = nI 48 from rfl, show (4 : Int32) = nI 4 from rfl, pk_mul, pk_mul, nI_add]
theorem z_nI2 (a : Nat) : nI a + 2 = nI (a + 2) := nI_add a 2
theorem z_nI3 (a : Nat) : nI a + 3 = nI (a + 3) := nI_add a 3
theorem z_says {b w k : g_S} {σ : r_S} {r : Nat} (H : z_rl b σ r) (hr : r < 6) (hw : g_N w 0 = 11) (hk : g_N k 0 = 64) (hwd : ∀ j, j < 11 → g_L w 0 j = r_L σ 19 j) :
    ∃ x f g v, t_X6_saysTo b w k = some (x, g_sl k 0 f) ∧ t_X12_summedBy σ (nI r) = some (x, z_sc σ g v) := by
  obtain ⟨K, V, a, m, C, N, hC, hN, hb0, hb1, hcl, hcode, hcs⟩ := H
  have main : ∀ (d c : Nat) (f g : Nat → Int64) (v : Int32) (fu fu' : Nat), c + d = C → d < fu → d < fu' → ∃ x f' g' v', t_X6_saysTo_2 fu b w (g_sl k 0 f) (nI (2 * c)) = some (x, g_sl k 0 f') ∧ t_X12_summedBy_2 fu' (z_sc σ g v) (nI r) (nI c) = some (x, z_sc σ g' v') := by
    intro d
    induction d with
    | zero =>
      intro c f g v fu fu' hcd hf hf'
      obtain ⟨fu, rfl⟩ := Nat.exists_eq_succ_of_ne_zero (show fu ≠ 0 by omega)
      obtain ⟨fu', rfl⟩ := Nat.exists_eq_succ_of_ne_zero (show fu' ≠ 0 by omega)
      refine ⟨0, f, g, v, ?_, ?_⟩
      · rw [t_X6_saysTo_2]
        try dsimp only
        rw [show Int32.ofNat (g_N b 1) = nI (2 * C + 1) by rw [hb1]; rfl, z_nI2, if_pos (nI_le (by omega) (by omega))]
      · rw [t_X12_summedBy_2, z_sc_A, t_ai_in hr (by decide), Option.bind_some, hcl, if_pos (nI_le (by omega) (by omega))]
    | succ d ih =>
      intro c f g v fu fu' hcd hf hf'
      obtain ⟨fu, rfl⟩ := Nat.exists_eq_succ_of_ne_zero (show fu ≠ 0 by omega)
      obtain ⟨fu', rfl⟩ := Nat.exists_eq_succ_of_ne_zero (show fu' ≠ 0 by omega)
      obtain ⟨p1, p2, p3, p4, p5, p6, p7, p8, p9, p10⟩ := hcs c (by omega)
      have eC : ∀ j, j < 2 * C + 1 → t_ai (g_N b 1) (g_A b 1) (nI j) = some (g_A b 1 j) := fun j hj => by rw [hb1, t_ai_in hj (by omega)]
      have eR : ∀ (g : Nat → Int64) (v : Int32) (j : Nat), j < 288 → t_ai 288 (r_A (z_sc σ g v) 5) (nI j) = some (r_A σ 5 j) := fun g v j hj => by rw [z_sc_A, t_ai_in hj (by decide)]
      obtain ⟨XeA, heA⟩ : ∃ X, t_X6_saysTo_2 (fu + 1) b w (g_sl k 0 f) (nI (2 * c)) = X := ⟨_, rfl⟩
      have eA := heA
      rw [t_X6_saysTo_2] at eA
      try dsimp only at eA
      rw [show Int32.ofNat (g_N b 1) = nI (2 * C + 1) by rw [hb1]; rfl, z_nI2, if_neg (nI_ge (show 2 * c + 2 < 2 * C + 1 by omega) (by omega)), nI_1, eC _ (by omega), Option.bind_some, eC _ (by omega), Option.bind_some, p5, p6] at eA
      replace eA := heA.trans eA.symm
      obtain ⟨XeB, heB⟩ : ∃ X, t_X12_summedBy_2 (fu' + 1) (z_sc σ g v) (nI r) (nI c) = X := ⟨_, rfl⟩
      have eB := heB
      rw [t_X12_summedBy_2, z_sc_A, t_ai_in hr (by decide), Option.bind_some, hcl, if_neg (nI_ge (show c < C by omega) (by omega)), z_ix48, z_nI2, z_nI3, eR _ _ _ (by omega), Option.bind_some] at eB
      replace eB := heB.trans eB.symm
      -- the SUM
      have sum : ∀ (f g : Nat → Int64) (v : Int32), ∃ x f' g', t_X6_saysTo_71 b w (g_sl k 0 f) (nI (2 * c)) = some (x, g_sl k 0 f') ∧ t_X12_summedBy_58 (z_sc σ g v) (nI r) (nI (48 * r + 4 * c)) = some (x, z_sc σ g' 0) := by
        intro f g v
        obtain ⟨x, f', g', e1, e2, -⟩ := z_seg (σ := z_sc σ g v) (k := g_sl k 0 f) hb0 hN (show m c ≤ N by omega) p1 hk hw hr hcode (fun j hj => by rw [z_sc_19]; exact hwd j hj) p9
        refine ⟨x, f', g', ?_, ?_⟩
        · unfold t_X6_saysTo_71
          rw [nI_1, eC _ (by omega), Option.bind_some, eC _ (by omega), Option.bind_some, p4, p5, e1, z_kk]
          rfl
        · unfold t_X12_summedBy_58
          rw [nI_1, eR _ _ _ (by omega), Option.bind_some, eR _ _ _ (by omega), Option.bind_some, p7, p8, e2, z_sc_sc]
          rfl
      rcases p10 with ⟨y1, y2⟩ | ⟨y1, y2, y3, y4⟩
      · obtain ⟨x, f', g', e1, e2⟩ := sum f g v
        refine ⟨x, f', g', 0, ?_, ?_⟩
        · rw [eA, y1, if_pos rfl, t_X6_saysTo_37, if_neg (by decide)]
          exact e1
        · rw [eB, y2, if_pos (by decide)]
          exact e2
      · obtain ⟨x1, f1, g1, q1, q2, q3⟩ := z_seg (σ := z_sc σ g v) (k := g_sl k 0 f) hb0 hN p3 p2 hk hw hr hcode (fun j hj => by rw [z_sc_19]; exact hwd j hj) y4
        rw [z_kk] at q1
        rw [z_sc_sc] at q2
        have eA2 : t_X6_saysTo_2 (fu + 1) b w (g_sl k 0 f) (nI (2 * c)) = if lg_cmp x1 0 = 0 then t_X6_saysTo_2 fu b w (g_sl k 0 f1) (nI (2 * c + 2)) else t_X6_saysTo_71 b w (g_sl k 0 f1) (nI (2 * c)) := by
          rw [eA, if_neg (fun e => by have := (nI_eq (by omega) (by omega)).mp e; omega), t_X6_saysTo_37, if_pos rfl, nI_1, z_nI2, eC _ (by omega), Option.bind_some, eC _ (by omega), Option.bind_some, p5, p6, q1, Option.bind_some]
        have eB2 : t_X12_summedBy_2 (fu' + 1) (z_sc σ g v) (nI r) (nI c) = if lg_cmp x1 1 = 0 then t_X12_summedBy_58 (z_sc σ g1 0) (nI r) (nI (48 * r + 4 * c)) else t_X12_summedBy_2 fu' (z_sc σ g1 0) (nI r) (nI (c + 1)) := by
          rw [eB, y2, if_neg (nI_pos (by omega)), Option.bind_some, eR _ _ _ (by omega), Option.bind_some, y3, q2, Option.bind_some, nI_1]
        rcases q3 rfl with rfl | rfl
        · obtain ⟨x, f', g', v', e1, e2⟩ := ih (c + 1) f1 g1 0 fu fu' (by omega) (by omega) (by omega)
          refine ⟨x, f', g', v', ?_, ?_⟩
          · rw [eA2, if_pos (z_lg.mpr rfl)]
            exact e1
          · rw [eB2, if_neg (by decide)]
            exact e2
        · obtain ⟨x, f', g', e1, e2⟩ := sum f1 g1 0
          refine ⟨x, f', g', 0, ?_, ?_⟩
          · rw [eA2, if_neg (by decide)]
            exact e1
          · rw [eB2, if_pos (z_lg.mpr rfl)]
            exact e2
  obtain ⟨x, f', g', v', e1, e2⟩ := main C 0 (g_L k 0) (r_L σ 17) (r_I σ 18) q_fu q_fu (by omega) (by show C < 5000; omega) (by show C < 5000; omega)
  rw [z_kk_eta] at e1
  rw [z_sc_eta] at e2
  exact ⟨x, f', g', v', e1, e2⟩
