/-! ===== L3: a comparison, both sides ===== -/
section SY2
variable {f : Nat → Int32} {N r c0 : Nat}
theorem z_compar_any (x : Int32) : ∃ q, m_X6_comparison x = some q := by
  unfold m_X6_comparison
  repeat' split
  all_goals exact ⟨_, rfl⟩
theorem z_wr_any {j : g_S} {c : Nat} (h2 : g_I j 2 = nI c) (hc : c ≤ 400) (a b : Int32) : ∃ j' c', t_X7_write j a b = some j' ∧ g_I j' 2 = nI c' ∧ c' ≤ 400 ∧ z_f2 j j' := by
  unfold t_X7_write
  try dsimp only
  rw [h2]
  by_cases e : 400 ≤ c
  · rw [if_pos (show Int32.ofNat 400 ≤ nI c from nI_le (a := 400) e (by omega))]
    exact ⟨j, c, rfl, h2, hc, z_f2_refl _⟩
  · rw [if_neg (show ¬ Int32.ofNat 400 ≤ nI c from nI_ge (b := 400) (by omega) (by decide)), u_si_in (by omega) (by decide), Option.bind_some]
    refine ⟨_, c + 1, rfl, ?_, by omega, ⟨fun k h1 h2 => z_si_In h1, fun k h => ?_, rfl⟩⟩
    · rw [z_si_I, show g_I (g_sa j 1 (upd (g_A j 1) c (a + 32 * b))) 2 = nI c from h2, nI_1]
    · rw [z_si_A, z_sa_of h]
theorem z_cmpS {w k p i c m : Nat} {S0 : List Bool} {j d : g_S} {σ : r_S} {K V : Nat → Nat} (Y : z_y d σ f N k p i) (C : z_cj j σ r c m K V) (hc : c + w ≤ k) (T : z_tt K c0 c S0) (hl : S0.length ≤ m) :
    ∃ j' d' rr σ', t_X7_readComparison j d = some (j', d') ∧ t_X12_compare σ = some (rr, σ') ∧ z_f1 r σ σ' ∧ z_f2 j j' ∧ g_P d' = g_P d ∧
      ((rr = 1 ∧ ∃ k' p' i' c' m' K' V', z_y d' σ' f N k' p' i' ∧ z_cj j' σ' r c' m' K' V' ∧ c' + w ≤ k' ∧ z_tt K' c0 c' (true :: S0) ∧ (true :: S0).length ≤ m' ∧ c < c' ∧ m < m' ∧ ∀ q, q < c → K' q = K q ∧ V' q = V q) ∨
       (rr = 0 ∧ ∃ e c', z_dd d' e ∧ r_I σ' 9 = e ∧ g_I j' 2 = nI c' ∧ c' ≤ 400)) := by
  have h8 := Y.2.2.2.2.2.1
  have e60 : ∀ {j d : g_S} {e x : Int32}, z_dd d e → t_X7_readComparison_60 j d x = some (j, d) := fun {j d e x} D => by
    unfold t_X7_readComparison_60
    try dsimp only
    rw [if_neg (z_dd8 D)]
  obtain ⟨j1, d1, rr, σ1, a1, a2, a3, a4, a5, a6⟩ := z_sumS Y C hc T hl
  have eC : t_X7_readComparison j d = (m_X6_comparison (g_I d1 6)).bind fun r7 => if r7 = 0 then (t_X3_refuse d1 0).bind fun x => t_X7_readComparison_60 j1 x.2 r7 else if g_I j1 8 < 60 then t_X7_readComparison_60 j1 d1 r7 else (t_X3_refuse d1 3).bind fun x => t_X7_readComparison_60 j1 x.2 r7 := by
    unfold t_X7_readComparison
    try dsimp only
    rw [if_pos h8, a1, Option.bind_some]
  rcases a6 with ⟨rfl, k1, p1, i1, c1, m1, K1, V1, Y1, C1, b3, T1, b5, b6, b8, b7⟩ | ⟨rfl, e, c', D, b2, b3, b4⟩
  · have es := z_y_see Y1
    have Y10 := z_y_nx Y1
    obtain ⟨k6, -, hp⟩ := z_rr_k Y1.2.2.2.2.1
    have kl := z_k1_lt f N p1
    have hN := Y1.1.2.2.1
    have hm1 : m1 ≤ 60 := C1.2.2.2.2.2.1
    have j8 : g_I j1 8 = nI m1 := C1.2.2.2.2.2.2.1
    rw [k6, z_compar _ kl, Option.bind_some] at eC
    have eR : t_X12_compare σ = (if (if p1 < N then nI (z_u f p1) else (-1 : Int32)) = 60 then t_X12_compare_44 (z_nx σ1 p1) (if p1 < N then nI (z_u f p1) else (-1 : Int32)) (nI p1) else if (if p1 < N then nI (z_u f p1) else (-1 : Int32)) = 61 then t_X12_compare_44 (z_nx σ1 p1) (if p1 < N then nI (z_u f p1) else (-1 : Int32)) (nI p1) else if (if p1 < N then nI (z_u f p1) else (-1 : Int32)) = 62 then t_X12_compare_44 (z_nx σ1 p1) (if p1 < N then nI (z_u f p1) else (-1 : Int32)) (nI p1) else (t_X12_fails (z_nx σ1 p1) 0 (nI p1)).bind fun x => some (x.1, x.2)) := by
      unfold t_X12_compare
      rw [a2, Option.bind_some]
      try dsimp only
      rw [if_neg (by decide), es, Option.bind_some]
      try dsimp only
      rw [z_nx8]
    -- no sign
    have zero : z_cm (z_k1 f N p1) = 0 → t_X12_compare σ = (t_X12_fails (z_nx σ1 p1) 0 (nI p1)).bind (fun x => some (x.1, x.2)) → ∃ j' d' rr σ', t_X7_readComparison j d = some (j', d') ∧ t_X12_compare σ = some (rr, σ') ∧ z_f1 r σ σ' ∧ z_f2 j j' ∧ g_P d' = g_P d ∧ ((rr = 1 ∧ ∃ k' p' i' c' m' K' V', z_y d' σ' f N k' p' i' ∧ z_cj j' σ' r c' m' K' V' ∧ c' + w ≤ k' ∧ z_tt K' c0 c' (true :: S0) ∧ (true :: S0).length ≤ m' ∧ c < c' ∧ m < m' ∧ ∀ q, q < c → K' q = K q ∧ V' q = V q) ∨ (rr = 0 ∧ ∃ e c', z_dd d' e ∧ r_I σ' 9 = e ∧ g_I j' 2 = nI c' ∧ c' ≤ 400)) := fun hz hR => by
      obtain ⟨d', σ', e, q1, q2, q3, q4, q5, q6⟩ := z_y_bad Y1 Y10.2.2.2.2.2.2 (z_so_nx σ1 p1) (a := 0) (by decide)
      refine ⟨j1, d', 0, σ', ?_, ?_, z_f1_trans a3 (z_f1_so r q5), a4, q6.trans a5, Or.inr ⟨rfl, e, c1, q3, q4, C1.2.2.2.1, C1.2.2.1⟩⟩
      · rw [eC, hz, if_pos (show nI 0 = (0 : Int32) from rfl), show t_X3_refuse d1 0 = some (0, d') from q1, Option.bind_some]
        exact e60 q3
      · rw [hR, show t_X12_fails (z_nx σ1 p1) 0 (nI p1) = some (0, σ') from q2]
        rfl
    -- a sign
    have go : ∀ s q, z_cm (z_k1 f N p1) = q → 10 ≤ q → q ≤ 14 → p1 < N → nI (z_cv q) = 6 + s → t_X12_compare σ = (t_X12_makes (z_nx σ1 (z_nd f N p1)) (nI p1)).bind (fun x => if x.1 = 0 then some (0, x.2) else t_X12_compare_152 x.2 s) → ∃ j' d' rr σ', t_X7_readComparison j d = some (j', d') ∧ t_X12_compare σ = some (rr, σ') ∧ z_f1 r σ σ' ∧ z_f2 j j' ∧ g_P d' = g_P d ∧ ((rr = 1 ∧ ∃ k' p' i' c' m' K' V', z_y d' σ' f N k' p' i' ∧ z_cj j' σ' r c' m' K' V' ∧ c' + w ≤ k' ∧ z_tt K' c0 c' (true :: S0) ∧ (true :: S0).length ≤ m' ∧ c < c' ∧ m < m' ∧ ∀ q, q < c → K' q = K q ∧ V' q = V q) ∨ (rr = 0 ∧ ∃ e c', z_dd d' e ∧ r_I σ' 9 = e ∧ g_I j' 2 = nI c' ∧ c' ≤ 400)) := fun s q hq q10 q14 hpN hs hR => by
      have C1' := z_cj_so C1 (z_so_nx σ1 (z_nd f N p1))
      have h9 : r_I (z_nx σ1 (z_nd f N p1)) 9 = 0 := (z_nxI (by decide)).trans Y1.2.2.2.2.2.2
      rw [hq, if_neg (nI_ne0 (by omega) (by omega)), j8] at eC
      rw [z_makes C1'] at hR
      by_cases m60 : m1 = 60
      · obtain ⟨d', σ', e, q1, q2, q3, q4, q5, q6⟩ := z_y_bad Y1 h9 (z_so_nx σ1 _) (a := 3) (by decide)
        refine ⟨j1, d', 0, σ', ?_, ?_, z_f1_trans a3 (z_f1_so r q5), a4, q6.trans a5, Or.inr ⟨rfl, e, c1, q3, q4, C1.2.2.2.1, C1.2.2.1⟩⟩
        · rw [eC, if_neg (show ¬ nI m1 < (60 : Int32) from nI_nlt (b := 60) (by omega) (by omega)), show t_X3_refuse d1 3 = some (0, d') from q1, Option.bind_some]
          exact e60 q3
        · rw [hR, if_pos m60, show t_X12_fails (z_nx σ1 (z_nd f N p1)) 3 (nI p1) = some (0, σ') from q2, Option.bind_some, Option.bind_some]
          exact if_pos rfl
      · have C2 := z_cj_made C1' (by omega)
        have Yb : z_yb d1 (r_si (z_nx σ1 (z_nd f N p1)) 12 (nI (m1 + 1))) f N k1 p1 := by
          obtain ⟨y1, y2, y3, y4, y5, y6, y7⟩ := Y1
          exact ⟨⟨y1.1, (z_rsiIn (by decide)).trans ((z_nxI (by decide)).trans y1.2.1), y1.2.2⟩, (z_rsiIn (by decide)).trans (z_nx8 _ _), hpN, y5, y6, (z_rsiIn (by decide)).trans h9⟩
        obtain ⟨d2, n1, n2, n3⟩ := z_yb_next Yb
        obtain ⟨j3, d3, rr, σ3, x1, x2, x3, x4, x5, x6⟩ := z_sumS (w := w + 1) n2 C2 (by omega) T1 (by omega)
        have F : z_f1 r σ σ3 := z_f1_trans a3 (z_f1_trans (z_f1_so r (z_so_nx σ1 _)) (z_f1_trans (z_f1_12 _ _) x3))
        have G : z_f2 j j3 := z_f2_trans a4 (z_f2_trans ⟨fun k _ h => z_si_In h, fun _ _ => rfl, rfl⟩ x4)
        have eC2 : t_X7_readComparison j d = (t_X7_write j3 (nI q) 0).bind fun j9 => some (j9, d3) := by
          rw [eC, if_pos (show nI m1 < (60 : Int32) from nI_lt (b := 60) (by omega) (by decide))]
          unfold t_X7_readComparison_60
          try dsimp only
          rw [if_pos Y1.2.2.2.2.2.1, j8, nI_1, n1, Option.bind_some, x1, Option.bind_some]
        rw [if_neg m60, Option.bind_some, if_neg (show ¬ ((1 : Int32), r_si (z_nx σ1 (z_nd f N p1)) 12 (nI (m1 + 1))).1 = 0 from (by decide : ¬ (1 : Int32) = 0))] at hR
        unfold t_X12_compare_152 at hR
        try dsimp only at hR
        rw [x2, Option.bind_some] at hR
        try dsimp only at hR
        rcases x6 with ⟨rfl, k3, p3, i3, c3, m3, K3, V3, Y3, C3, w3, T3, l3, l4, l6, l5⟩ | ⟨rfl, e, c', D, w2, w3, w4⟩
        · have hk3 : k3 ≤ 400 := by
            obtain ⟨T', mm, q1, q2, q3, q4, -⟩ := Y3.2.2.2.2.1
            omega
          obtain ⟨j4, σ4, u1, u2, u3, u4, u5, u6, u7⟩ := z_put C3 (k := q) (v := 0) (by omega) ⟨by omega, by omega, fun h => by omega⟩
          rw [if_neg (by decide), ← hs, show t_X12_puts σ3 (nI (z_cv q)) 0 = some σ4 from u2, Option.bind_some] at hR
          refine ⟨j4, d3, 1, σ4, ?_, hR, z_f1_trans F u4, z_f2_trans G u5, x5.trans (n3.trans a5), Or.inl ⟨rfl, k3, p3, i3, c3 + 1, m3, _, _, z_y_f1 Y3 u4 (u6 8) (u6 9), u3, by omega, z_tt_put T3 ?_, ?_, by omega, by omega, fun x hx => ⟨?_, ?_⟩⟩⟩
          · rw [eC2, show t_X7_write j3 (nI q) 0 = some j4 from u1]
            rfl
          · unfold z_t1
            rw [if_neg (by omega), if_neg (by omega), if_neg (by omega), if_neg (by omega)]
            first | rfl | (rw [if_pos (by omega)])
          · simp only [List.length_cons] at l3 ⊢
            omega
          · rw [show z_un K3 c3 q x = K3 x from if_neg (by omega), (l5 x (by omega)).1, (b7 x hx).1]
          · rw [show z_un V3 c3 0 x = V3 x from if_neg (by omega), (l5 x (by omega)).2, (b7 x hx).2]
        · obtain ⟨j4, c4, u1, u2, u3, u4⟩ := z_wr_any w3 w4 (nI q) 0
          rw [if_pos rfl] at hR
          refine ⟨j4, d3, 0, σ3, ?_, hR, F, z_f2_trans G u4, x5.trans (n3.trans a5), Or.inr ⟨rfl, e, c4, D, w2, u2, u3⟩⟩
          rw [eC2, u1]
          rfl
    by_cases hpN : p1 < N
    · rw [if_pos hpN] at eR
      have hu := z_u_lt f p1
      have e44 : ∀ x1, t_X12_compare_44 (z_nx σ1 p1) x1 (nI p1) = if x1 = 61 then t_X12_compare_105 (z_nx σ1 (p1 + 1)) x1 (nI p1) 0 else if p1 + 1 < N ∧ z_u f (p1 + 1) = 61 then t_X12_compare_105 (z_nx σ1 (p1 + 2)) x1 (nI p1) 1 else t_X12_compare_105 (z_nx σ1 (p1 + 1)) x1 (nI p1) 0 := fun x1 => by
        unfold t_X12_compare_44
        try dsimp only
        rw [z_nx_si σ1 p1 _ (by rw [z_nx8, nI_1]), z_nx8, z_nxI (by decide), Y1.1.2.1, z_nxA, Y1.1.1]
        have e89 : t_X12_compare_89 (z_nx σ1 (p1 + 1)) x1 (nI p1) = t_X12_compare_105 (z_nx σ1 (p1 + 1)) x1 (nI p1) 0 := by
          unfold t_X12_compare_89 t_X12_compare_90
          exact if_pos rfl
        by_cases h61 : x1 = 61
        · rw [if_pos h61, if_pos h61, e89]
        · rw [if_neg h61, if_neg h61]
          by_cases h1 : p1 + 1 < N
          · rw [if_neg (nI_ge h1 (by omega)), t_ai_in (by omega) (by decide), Option.bind_some]
            have b61 := z_b_eq Y1.1.2.2 h1 (c := 61) (by decide)
            by_cases h2 : z_u f (p1 + 1) = 61
            · rw [if_pos (show f (p1 + 1) = (61 : Int32) from b61.mpr h2), if_pos ⟨h1, h2⟩]
              unfold t_X12_compare_90
              try dsimp only
              rw [if_neg (by decide), z_nx_si σ1 (p1 + 1) _ (by rw [z_nx8, nI_1])]
            · rw [if_neg (show ¬ f (p1 + 1) = (61 : Int32) from fun e => h2 (b61.mp e)), if_neg (fun e => h2 e.2), e89]
          · rw [if_pos (nI_le (by omega) (by omega)), if_neg (fun e => h1 e.1), e89]
      rcases z_ksign (f := f) hpN with ⟨u60, h⟩ | ⟨u62, h⟩ | ⟨u61, h, hn⟩ | ⟨n60, n61, n62, h⟩
      · rw [u60, if_pos (show nI 60 = (60 : Int32) from rfl), e44, if_neg (show ¬ nI 60 = (61 : Int32) by decide)] at eR
        rcases h with ⟨hk, g1, g2, hn⟩ | ⟨hk, g, hn⟩
        · rw [if_pos ⟨g1, g2⟩] at eR
          exact go 1 11 (by rw [hk]; rfl) (by decide) (by decide) hpN (by decide) (by rw [eR, hn]; rfl)
        · rw [if_neg g] at eR
          exact go 0 10 (by rw [hk]; rfl) (by decide) (by decide) hpN (by decide) (by rw [eR, hn]; rfl)
      · rw [u62, if_neg (show ¬ nI 62 = (60 : Int32) by decide), if_neg (show ¬ nI 62 = (61 : Int32) by decide), if_pos (show nI 62 = (62 : Int32) from rfl), e44, if_neg (show ¬ nI 62 = (61 : Int32) by decide)] at eR
        rcases h with ⟨hk, g1, g2, hn⟩ | ⟨hk, g, hn⟩
        · rw [if_pos ⟨g1, g2⟩] at eR
          exact go 3 13 (by rw [hk]; rfl) (by decide) (by decide) hpN (by decide) (by rw [eR, hn]; rfl)
        · rw [if_neg g] at eR
          exact go 4 14 (by rw [hk]; rfl) (by decide) (by decide) hpN (by decide) (by rw [eR, hn]; rfl)
      · rw [u61, if_neg (show ¬ nI 61 = (60 : Int32) by decide), if_pos (show nI 61 = (61 : Int32) from rfl), e44, if_pos (show nI 61 = (61 : Int32) from rfl)] at eR
        exact go 2 12 (by rw [h]; rfl) (by decide) (by decide) hpN (by decide) (by rw [eR, hn]; rfl)
      · rw [if_neg (show ¬ nI (z_u f p1) = (60 : Int32) from fun e => n60 ((nI_eq (b := 60) (by omega) (by decide)).mp e)), if_neg (show ¬ nI (z_u f p1) = (61 : Int32) from fun e => n61 ((nI_eq (b := 61) (by omega) (by decide)).mp e)), if_neg (show ¬ nI (z_u f p1) = (62 : Int32) from fun e => n62 ((nI_eq (b := 62) (by omega) (by decide)).mp e))] at eR
        exact zero h eR
    · rw [if_neg hpN, if_neg (by decide), if_neg (by decide), if_neg (by decide)] at eR
      exact zero (by rw [(z_k1_end f N p1).mpr hpN]; rfl) eR
  · obtain ⟨q, hq⟩ := z_compar_any (g_I d1 6)
    refine ⟨j1, d1, 0, σ1, ?_, ?_, a3, a4, a5, Or.inr ⟨rfl, e, c', D, b2, b3, b4⟩⟩
    · rw [eC, hq, Option.bind_some, z_dd_ref D, z_dd_ref D, Option.bind_some]
      try dsimp only
      rw [e60 D]
      split
      · rfl
      · split <;> rfl
    · unfold t_X12_compare
      rw [a2, Option.bind_some]
      exact if_pos rfl
end SY2
