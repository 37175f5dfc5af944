/-! ===== L3: a TEST, both sides ===== -/
section TE
variable {f : Nat → Int32} {N r c0 : Nat}
theorem z_106 {j d : g_S} {e : Int32} {c n : Nat} (D : z_dd d e) (h2 : g_I j 2 = nI c) (hc : c ≤ 400) (h6 : g_I j 6 = nI n) (hn : n ≤ 40) : ∃ j' c', t_X7_readTest_106 j d = some (j', d) ∧ g_I j' 2 = nI c' ∧ c' ≤ 400 ∧ z_f4 j j' := by
  obtain ⟨j', n', c', x1, x2, x3, x4, x5, x6⟩ := z_set_any 2 n q_fu c j hn (by show n < 5000; omega) h6 h2 hc
  refine ⟨j', c', ?_, x4, x5, x6⟩
  unfold t_X7_readTest_106
  rw [show t_X7_settle j 2 = some j' from x1, Option.bind_some]
  try dsimp only
  by_cases c0 : g_I j' 6 = 0
  · rw [if_pos c0]
  · rw [if_neg c0, z_dd_ref D, Option.bind_some]
theorem z_65 {k12 : g_S → g_S → Int32 → Option (g_S × g_S)} {j d : g_S} {e x s : Int32} (D : z_dd d e) : t_X7_readTest_65 k12 j d x s = t_X7_readTest_106 j d := by
  unfold t_X7_readTest_65
  try dsimp only
  rw [if_neg (z_dd8 D)]
theorem z_dd_close {j d : g_S} {e : Int32} (D : z_dd d e) : t_X7_closeAll j d = some (j, d) := by
  unfold t_X7_closeAll q_fu
  rw [t_X7_closeAll_2, if_neg (by decide)]
  try dsimp only
  rw [if_neg (z_dd8 D)]
theorem z_testL : ∀ (u x fu fu' k p i c m n : Nat) (K V w : Nat → Nat) (j d : g_S) (σ : r_S), 60 ≤ m + u → x ≤ m → u < fu → u + 1 < fu' → z_y d σ f N k p i → z_cj j σ r c m K V → z_w1 j w n → z_w2 σ w n → z_wv w n → z_dp w n ≤ 10 → c + n ≤ k → z_tt K c0 c (List.replicate (z_bn w n) true) → z_bn w n ≤ m →
    ∃ j' d' rr σ', t_X7_readTest_12 fu j d (nI x) = some (j', d') ∧ t_X12_tested_12 fu' σ 1 = some (rr, σ') ∧ z_f3 r σ σ' ∧ z_f4 j j' ∧ g_P d' = g_P d ∧
      ((rr = 1 ∧ ∃ k' p' i' c' m' K' V', z_y d' σ' f N k' p' i' ∧ z_cj j' σ' r c' m' K' V' ∧ c' ≤ k' ∧ z_tt K' c0 c' [true] ∧ c < c' ∧ m < m' ∧ ∀ q, q < c → K' q = K q ∧ V' q = V q) ∨
       (rr = 0 ∧ ∃ e c', z_dd d' e ∧ r_I σ' 9 = e ∧ g_I j' 2 = nI c' ∧ c' ≤ 400)) := by
  intro u
  induction u with
  | zero =>
    intro x fu fu' k p i c m n K V w j d σ hu hx hf hf' Y C A B H hd hc T hl
    obtain ⟨fu, rfl⟩ := Nat.exists_eq_succ_of_ne_zero (show fu ≠ 0 by omega)
    obtain ⟨fu', rfl⟩ := Nat.exists_eq_succ_of_ne_zero (show fu' ≠ 0 by omega)
    have hm60 := C.2.2.2.2.2.1
    obtain ⟨j1, d1, rr, σ1, a1, a2, a3, a4, a5, a6⟩ := z_factS Y C A B H hd hc T hl
    rcases a6 with ⟨rfl, k1, p1, i1, c1, m1, n1, K1, V1, w1, S1, b2, b3, b4⟩ | ⟨rfl, e, c1, n1, D, b2, b3, b4, b5, b6⟩
    · have := S1.2.1.1.2.2.2.2.2.1
      omega
    · obtain ⟨j2, c2, g1, g2, g3, g4⟩ := z_106 D b3 b4 b5 b6
      obtain ⟨⟨j0, d0⟩, o1, o2⟩ := Option.bind_eq_some_iff.mp a1
      refine ⟨j2, d1, 0, σ1, ?_, ?_, a3, z_f4_trans a4 g4, a5, Or.inr ⟨rfl, e, c2, D, b2, g2, g3⟩⟩
      · rw [t_X7_readTest_12, if_neg (show ¬ (60 : Int32) < nI x from nI_nlt (a := 60) (by omega) (by decide)), o1, Option.bind_some]
        try dsimp only at o2 ⊢
        rw [o2, Option.bind_some]
        try dsimp only
        rw [z_dd_close D, Option.bind_some]
        try dsimp only
        rw [z_65 D, z_65 D, z_65 D, g1]
        split
        · rfl
        · split <;> rfl
      · rw [t_X12_tested_12, if_neg (by decide), a2, Option.bind_some]
        exact if_pos rfl
  | succ u ih =>
    intro x fu fu' k p i c m n K V w j d σ hu hx hf hf' Y C A B H hd hc T hl
    obtain ⟨fu, rfl⟩ := Nat.exists_eq_succ_of_ne_zero (show fu ≠ 0 by omega)
    obtain ⟨fu', rfl⟩ : ∃ g, fu' = g + 2 := ⟨fu' - 2, by omega⟩
    have hm60 := C.2.2.2.2.2.1
    obtain ⟨j1, d1, rr, σ1, a1, a2, a3, a4, a5, a6⟩ := z_factS Y C A B H hd hc T hl
    obtain ⟨⟨j0, d0⟩, o1, o2⟩ := Option.bind_eq_some_iff.mp a1
    have x60 : ¬ (60 : Int32) < nI x := nI_nlt (a := 60) (by omega) (by decide)
    rcases a6 with ⟨rfl, k1, p1, i1, c1, m1, n1, K1, V1, w1, S1, b2, b3, b4⟩ | ⟨rfl, e, c1, n1, D, b2, b3, b4, b5, b6⟩
    · obtain ⟨Y1, Q1, hc1⟩ := S1
      have hk1 := z_y400 Y1
      obtain ⟨jv, σ2, c2, K2, V2, s1, s2, s3, s4, s5, s6, s7, s8, s9, s10, s11⟩ := z_setB (cl := 4) (by decide) (by decide) Q1 (by omega)
      have hle4 := z_se_le w1 4 n1
      have dle := z_d1_mono (w := w1) n1 hle4
      have dle2 := z_d1_le w1 n1
      have dp10 := Q1.2.2.2.2.1
      obtain ⟨j3, jw, d3, σ3, k3, p3, i3, c3, n3, K3, V3, t1, t2, t3, t4, t5, t6, t7, t8, t9, t10⟩ := z_closeL (w := w1) (z_d1 w1 n1) 0 q_fu q_fu k1 p1 i1 c2 (z_se w1 4 n1) K2 V2 j1 jv d1 σ2 dle (by omega) (by show _ < 5000; omega) (by show _ < 5000; omega) ⟨z_y_f3 Y1 s6 s8 s9, s3, by omega⟩ (s11 rfl 2 (by decide)) (s11 rfl 3 (by decide))
      obtain ⟨Y3, Q3, hc3⟩ := t3
      have hk3 := z_y400 Y3
      have h32 := z_w32 Q3.2.2.2.1 Q3.2.2.2.2.1
      have eCl : t_X7_closeAll j1 d1 = some (j3, d3) := t1
      have eCs : t_X12_closes σ1 = some σ3 := by
        unfold t_X12_closes
        rw [show t_X12_layDown σ1 3 = some σ2 from s2, Option.bind_some]
        exact t2
      have FF := z_f3_trans a3 (z_f3_trans s6 t7)
      have GG := z_f4_trans a4 (z_f4_trans s7 t8)
      have kp : ∀ q, q < c → K3 q = K q ∧ V3 q = V q := fun q hq => by
        obtain ⟨u1, u2⟩ := t10 q (by omega)
        obtain ⟨u3, u4⟩ := s10 q (by omega)
        obtain ⟨u5, u6⟩ := b4 q hq
        exact ⟨u1.trans (u3.trans u5), u2.trans (u4.trans u6)⟩
      obtain ⟨k6, -, hp⟩ := z_rr_k Y3.2.2.2.2.1
      have kl := z_k1_lt f N p3
      have Y30 := z_y_nx Y3
      have w14 := z_y_isW Y3 14 (w := [97, 110, 100]) rfl (c := 6385252) (by decide +kernel)
      have w14' := z_y_isW Y30 14 (w := [97, 110, 100]) rfl (c := 6385252) (by decide +kernel)
      have w15 := z_y_isW Y30 15 (w := [111, 114]) rfl (c := 28530) (by decide +kernel)
      rw [z_nxx] at w15 w14'
      have Q30 := z_tQ_so Q3 (z_so_nx σ3 p3)
      have i8 : g_I d3 8 = 0 := Y3.2.2.2.2.2.1
      have eC : t_X7_readTest_12 (fu + 1) j d (nI x) = if z_k1 f N p3 = 714 then t_X7_readTest_65 (t_X7_readTest_12 fu) j3 d3 (nI x) 3 else if z_k1 f N p3 = 715 then t_X7_readTest_65 (t_X7_readTest_12 fu) j3 d3 (nI x) 2 else t_X7_readTest_65 (t_X7_readTest_12 fu) j3 d3 (nI x) 0 := by
        rw [t_X7_readTest_12, if_neg x60, o1, Option.bind_some]
        try dsimp only at o2 ⊢
        rw [o2, Option.bind_some]
        try dsimp only
        rw [eCl, Option.bind_some]
        try dsimp only
        rw [k6]
        by_cases c14 : z_k1 f N p3 = 714
        · rw [if_pos c14, if_pos (show nI (z_k1 f N p3) = (714 : Int32) by rw [c14]; rfl)]
        · rw [if_neg c14, if_neg (show ¬ nI (z_k1 f N p3) = (714 : Int32) from fun e => c14 ((nI_eq (b := 714) (by omega) (by decide)).mp e))]
          by_cases c15 : z_k1 f N p3 = 715
          · rw [if_pos c15, if_pos (show nI (z_k1 f N p3) = (715 : Int32) by rw [c15]; rfl)]
          · rw [if_neg c15, if_neg (show ¬ nI (z_k1 f N p3) = (715 : Int32) from fun e => c15 ((nI_eq (b := 715) (by omega) (by decide)).mp e))]
      have eR : t_X12_tested_12 (fu' + 2) σ 1 = if z_k1 f N p3 = 714 then t_X12_tested_76 (t_X12_tested_12 (fu' + 1)) (z_nx σ3 p3) 1 12 else if z_k1 f N p3 = 715 then t_X12_tested_76 (t_X12_tested_12 (fu' + 1)) (z_nx σ3 p3) 1 13 else t_X12_tested_12 (fu' + 1) (z_nx σ3 p3) 0 := by
        rw [t_X12_tested_12, if_neg (by decide), a2, Option.bind_some]
        try dsimp only
        rw [if_neg (by decide), eCs, Option.bind_some, w14, Option.bind_some]
        try dsimp only
        by_cases c14 : z_k1 f N p3 = 714
        · rw [if_pos c14, if_neg (by decide)]
          unfold t_X12_tested_49 t_X12_tested_54
          rw [if_neg (by decide), w14', Option.bind_some, if_pos c14]
          try dsimp only
          rw [if_neg (by decide), if_pos c14]
        · rw [if_neg c14, if_pos rfl, w15, Option.bind_some, if_neg c14]
          try dsimp only
          by_cases c15 : z_k1 f N p3 = 715
          · rw [if_pos c15, if_neg (by decide), if_pos c15]
            unfold t_X12_tested_49 t_X12_tested_54
            rw [if_neg (by decide), w14', Option.bind_some, if_neg c14]
            try dsimp only
            rw [if_pos rfl]
          · rw [if_neg c15, if_pos rfl, if_neg c15]
            unfold t_X12_tested_54
            rw [if_pos rfl]
      -- a sign that joins
      have go : ∀ v, (v = 2 ∨ v = 3) → z_k1 f N p3 = 717 - v → t_X7_settle j3 (nI v) = t_X7_settle jw (nI v) → ∃ j' d' rr σ', t_X7_readTest_65 (t_X7_readTest_12 fu) j3 d3 (nI x) (nI v) = some (j', d') ∧ t_X12_tested_76 (t_X12_tested_12 (fu' + 1)) (z_nx σ3 p3) 1 (nI (z_wc v)) = some (rr, σ') ∧ z_f3 r σ σ' ∧ z_f4 j j' ∧ g_P d' = g_P d ∧ ((rr = 1 ∧ ∃ k' p' i' c' m' K' V', z_y d' σ' f N k' p' i' ∧ z_cj j' σ' r c' m' K' V' ∧ c' ≤ k' ∧ z_tt K' c0 c' [true] ∧ c < c' ∧ m < m' ∧ ∀ q, q < c → K' q = K q ∧ V' q = V q) ∨ (rr = 0 ∧ ∃ e c', z_dd d' e ∧ r_I σ' 9 = e ∧ g_I j' 2 = nI c' ∧ c' ≤ 400)) := fun v hv hkv hs => by
        obtain ⟨q1, q2⟩ := z_y_pass Y30 (j := 17 - v) (by omega)
        rw [z_nxx] at q1 q2
        obtain ⟨j5, σ5, c5, K5, V5, g1, g2, g3, g4, g5, g6, g7, g8, g9, g10, -⟩ := z_setB (cl := v) (by omega) (by omega) (z_tQ_so Q3 (z_so_nx σ3 (z_nd f N p3))) (by omega)
        obtain ⟨h1, h2, h3, h4, h5, h6, h7⟩ := g3
        have hle := z_se_le w1 v n3
        have top := z_se_top w1 v n3
        generalize hn5 : z_se w1 v n3 = n5 at *
        have eD : z_dp (z_un w1 n5 v) (n5 + 1) = z_dp w1 n5 := by rw [z_dp_put, if_neg (by omega)]; rfl
        have eB : z_bn (z_un w1 n5 v) (n5 + 1) = z_bn w1 n5 + 1 := by rw [z_bn_put, if_pos (by omega)]
        have Yb : z_yb d3 σ5 f N k3 p3 := by
          obtain ⟨y1, y2, y3, y4, y5, y6⟩ := q2
          exact ⟨⟨(g6.1 0 (by decide) (by decide) (by decide)).trans y1.1, (g6.2.2.2.1 1 (by decide) (by decide) (by decide) (by decide) (by decide) (by decide)).trans y1.2.1, y1.2.2⟩, g8.trans y2, y3, y4, y5, g9.trans y6⟩
        obtain ⟨σ7, hσ7⟩ : ∃ σ7, σ7 = r_si (r_sa σ5 15 (upd (r_A σ5 15) n5 (nI (z_wc v)))) 16 (nI (n5 + 1)) := ⟨_, rfl⟩
        have F7 : z_f3 r σ5 σ7 := by rw [hσ7]; exact z_f3_trans (z_f3_15 _ _) (z_f3_si _ (by omega) _)
        have Yb7 : z_yb d3 σ7 f N k3 p3 := by
          obtain ⟨y1, y2, y3, y4, y5, y6⟩ := Yb
          refine ⟨⟨(F7.1 0 (by decide) (by decide) (by decide)).trans y1.1, (F7.2.2.2.1 1 (by decide) (by decide) (by decide) (by decide) (by decide) (by decide)).trans y1.2.1, y1.2.2⟩, ?_, y3, y4, y5, ?_⟩
          · rw [hσ7, z_rsiIn (by decide)]; exact y2
          · rw [hσ7, z_rsiIn (by decide)]; exact y6
        obtain ⟨d7, m1', m2', m3'⟩ := z_yb_next Yb7
        obtain ⟨j', d', rr, σ', x1, x2, x3, x4, x5, x6⟩ := ih (x + 1) fu (fu' + 1) (k3 + 1) _ _ c5 m1 (n5 + 1) K5 V5 (z_un w1 n5 v) (g_si (g_sa j5 5 (upd (g_A j5 5) n5 (nI v))) 6 (nI (n5 + 1))) d7 σ7 (by omega) (by omega) (by omega) (by omega) m2'
          (by
            rw [hσ7]
            exact z_cj_w h1 (z_si_In (by decide)) (z_si_In (by decide)) (z_sa_of (by decide)) (z_rsiIn (by decide)) (z_rsiIn (by decide)) (z_rAn (σ := σ5) (by decide)) (z_rAn (σ := σ5) (by decide)))
          (z_w1_put h2.2.1 (by rw [eD]; exact h2.2.2)) (by rw [hσ7]; exact z_w2_put h3.2.1 (by rw [eD]; exact h3.2.2)) (z_wv_put h4 (by omega) (by omega) (fun _ => top)) (by omega) (by omega) (by rw [eB]; exact h6) (by omega)
        refine ⟨j', d', rr, σ', ?_, ?_, ?_, ?_, x5.trans (m3'.trans (t9.trans a5)), ?_⟩
        · unfold t_X7_readTest_65
          try dsimp only
          rw [if_pos i8, if_neg (nI_ne0 (by omega) (by omega)), hs, g1, Option.bind_some, z_hold h2.1 (by omega), Option.bind_some, m1', Option.bind_some, nI_1]
          exact x1
        · unfold t_X12_tested_76
          rw [q1, Option.bind_some, z_stren v (by omega) (by omega), Option.bind_some, g2, Option.bind_some]
          try dsimp only
          rw [h3.1, t_si_in (by omega) (by decide), Option.bind_some]
          rw [show r_I (r_sa σ5 15 (upd (r_A σ5 15) n5 (nI (z_wc v)))) 16 = nI n5 from h3.1, nI_1, ← hσ7]
          exact x2
        · exact z_f3_trans FF (z_f3_trans (z_f3_1 (z_f1_so r (z_so_nx σ3 _))) (z_f3_trans g6 (z_f3_trans F7 x3)))
        · exact z_f4_trans GG (z_f4_trans g7 (z_f4_trans (z_f4_trans (z_f4_5 _ _) (z_f4_si _ (by omega) _)) x4))
        · rcases x6 with ⟨y1, k', p', i', c', m', K', V', y2, y3, y4, y5, y6, y7, y8⟩ | y
          · exact Or.inl ⟨y1, k', p', i', c', m', K', V', y2, y3, y4, y5, by omega, by omega, fun q hq => by
              obtain ⟨u1, u2⟩ := y8 q (by omega)
              obtain ⟨u3, u4⟩ := g10 q (by omega)
              obtain ⟨u5, u6⟩ := kp q hq
              exact ⟨u1.trans (u3.trans u5), u2.trans (u4.trans u6)⟩⟩
          · exact Or.inr y
      rw [eC, eR]
      by_cases c14 : z_k1 f N p3 = 714
      · rw [if_pos c14, if_pos c14]
        exact go 3 (Or.inr rfl) (by omega) (t5.resolve_left (by omega))
      · rw [if_neg c14, if_neg c14]
        by_cases c15 : z_k1 f N p3 = 715
        · rw [if_pos c15, if_pos c15]
          exact go 2 (Or.inl rfl) (by omega) t4
        · rw [if_neg c15, if_neg c15]
          -- the end
          obtain ⟨j5, σ5, c5, K5, V5, g1, g2, g3, g4, g5, g6, g7, g8, g9, g10, -⟩ := z_setB (cl := 2) (by decide) (by decide) Q30 (by omega)
          obtain ⟨s1', s2'⟩ := z_se2 (w := w1) n3 (fun i hi => (Q3.2.2.2.1.1 i hi).1)
          have hle := z_se_le w1 2 n3
          obtain ⟨h1, h2, h3, h4, h5, h6, h7⟩ := g3
          have e65 : t_X7_readTest_65 (t_X7_readTest_12 fu) j3 d3 (nI x) 0 = if g_I j5 6 = 0 then some (j5, d3) else (t_X3_refuse d3 0).bind fun y => some (j5, y.2) := by
            unfold t_X7_readTest_65
            try dsimp only
            rw [if_pos i8, if_pos rfl]
            unfold t_X7_readTest_106
            rw [t4, show t_X7_settle jw 2 = some j5 from g1, Option.bind_some]
          have eT : t_X12_tested_12 (fu' + 1) (z_nx σ3 p3) 0 = if z_d1 w1 n3 = 0 then some (1, σ5) else (t_X12_see (z_nx σ3 p3)).bind fun y => (t_X12_fails y.2 0 (r_I y.2 8)).bind fun z => some (z.1, z.2) := by
            rw [t_X12_tested_12, if_pos rfl, z_inside Q30.2.2.1 Q30.2.2.2.1 (by omega), Option.bind_some]
            by_cases h0 : z_d1 w1 n3 = 0
            · rw [if_pos h0, if_pos rfl, if_pos h0, show t_X12_layDown (z_nx σ3 p3) 1 = some σ5 from g2, Option.bind_some]
            · rw [if_neg h0, if_neg (by decide), if_neg h0]
          rw [e65, eT]
          by_cases h0 : z_d1 w1 n3 = 0
          · have n0 := s2'.mpr h0
            rw [n0] at h2 h6
            rw [if_pos (show g_I j5 6 = 0 from h2.1), if_pos h0]
            refine ⟨j5, d3, 1, σ5, rfl, rfl, z_f3_trans FF (z_f3_trans (z_f3_1 (z_f1_so r (z_so_nx σ3 _))) g6), z_f4_trans GG g7, t9.trans a5, Or.inl ⟨rfl, k3, p3, p3, c5, m1, K5, V5, z_y_f3 Y30 g6 g8 g9, h1, by omega, h6, by omega, b3, fun q hq => ?_⟩⟩
            obtain ⟨u3, u4⟩ := g10 q (by omega)
            obtain ⟨u5, u6⟩ := kp q hq
            exact ⟨u3.trans u5, u4.trans u6⟩
          · have n0 : z_se w1 2 n3 ≠ 0 := fun e => h0 (s2'.mp e)
            have es0 := z_y_see Y30
            rw [z_nxx] at es0
            obtain ⟨d', σ', e, v1, v2, v3, v4, v5, v6⟩ := z_y_bad Y3 Y30.2.2.2.2.2.2 (z_so_nx σ3 p3) (a := 0) (by decide)
            rw [if_neg (show ¬ g_I j5 6 = 0 by rw [h2.1]; exact nI_ne0 (by omega) (by omega)), if_neg h0, show t_X3_refuse d3 0 = some (0, d') from v1, es0, Option.bind_some, Option.bind_some]
            try dsimp only
            rw [z_nx8, show t_X12_fails (z_nx σ3 p3) 0 (nI p3) = some (0, σ') from v2, Option.bind_some]
            exact ⟨j5, d', 0, σ', rfl, rfl, z_f3_trans FF (z_f3_1 (z_f1_so r v5)), z_f4_trans GG g7, v6.trans (t9.trans a5), Or.inr ⟨rfl, e, c5, v3, v4, h1.2.2.2.1, h1.2.2.1⟩⟩
    · obtain ⟨j2, c2, g1, g2, g3, g4⟩ := z_106 D b3 b4 b5 b6
      refine ⟨j2, d1, 0, σ1, ?_, ?_, a3, z_f4_trans a4 g4, a5, Or.inr ⟨rfl, e, c2, D, b2, g2, g3⟩⟩
      · rw [t_X7_readTest_12, if_neg x60, o1, Option.bind_some]
        try dsimp only at o2 ⊢
        rw [o2, Option.bind_some]
        try dsimp only
        rw [z_dd_close D, Option.bind_some]
        try dsimp only
        rw [z_65 D, z_65 D, z_65 D, g1]
        split
        · rfl
        · split <;> rfl
      · rw [t_X12_tested_12, if_neg (by decide), a2, Option.bind_some]
        exact if_pos rfl
theorem z_testS {k p i c m : Nat} {K V : Nat → Nat} {j d : g_S} {σ : r_S} (Y : z_y d σ f N k p i) (C : z_cj j σ r c m K V) (hc : c ≤ k) :
    ∃ j' d' rr σ', t_X7_readTest j d = some (j', d') ∧ t_X12_tested σ = some (rr, σ') ∧ z_f3 r σ σ' ∧ z_f4 j j' ∧ g_P d' = g_P d ∧
      ((rr = 1 ∧ ∃ k' p' i' c' m' K' V', z_y d' σ' f N k' p' i' ∧ z_cj j' σ' r c' m' K' V' ∧ c' ≤ k' ∧ z_ty K' (c' - c) c [] = some [true] ∧ c < c' ∧ ∀ q, q < c → K' q = K q ∧ V' q = V q) ∨
       (rr = 0 ∧ ∃ e c', z_dd d' e ∧ r_I σ' 9 = e ∧ g_I j' 2 = nI c' ∧ c' ≤ 400)) := by
  have F : z_f3 r σ (r_si (r_si σ 16 0) 13 0) := z_f3_trans (z_f3_si _ (by omega) _) (z_f3_si _ (by omega) _)
  have G : z_f4 j (g_si (g_si j 6 0) 7 0) := z_f4_trans (z_f4_si _ (by omega) _) (z_f4_si _ (by omega) _)
  obtain ⟨j', d', rr, σ', x1, x2, x3, x4, x5, x6⟩ := z_testL (c0 := c) 60 0 q_fu q_fu k p i c m 0 K V (fun _ => 1) (g_si (g_si j 6 0) 7 0) d (r_si (r_si σ 16 0) 13 0) (by omega) (by omega) (by decide) (by decide)
    (z_y_f3 Y F (by rw [z_rsiIn (by decide), z_rsiIn (by decide)]) (by rw [z_rsiIn (by decide), z_rsiIn (by decide)]))
    (z_cj_w C (by rw [z_si_In (by decide), z_si_In (by decide)]) (by rw [z_si_In (by decide), z_si_In (by decide)]) rfl (by rw [z_rsiIn (by decide), z_rsiIn (by decide)]) (by rw [z_rsiIn (by decide), z_rsiIn (by decide)]) rfl rfl)
    ⟨by rw [z_si_In (by decide), z_si_I]; rfl, fun i hi => absurd hi (Nat.not_lt_zero _), by rw [z_si_I]; rfl⟩
    ⟨by rw [z_rsiIn (by decide), z_rsiI]; rfl, fun i hi => absurd hi (Nat.not_lt_zero _), by rw [z_rsiI]; rfl⟩
    ⟨fun i hi => absurd hi (Nat.not_lt_zero _), fun i hi => absurd hi (Nat.not_lt_zero _)⟩ (Nat.zero_le _) hc ⟨Nat.le_refl _, by rw [Nat.sub_self]; rfl⟩ (Nat.zero_le _)
  refine ⟨j', d', rr, σ', x1, x2, z_f3_trans F x3, z_f4_trans G x4, x5, ?_⟩
  rcases x6 with ⟨y1, k', p', i', c', m', K', V', y2, y3, y4, y5, y6, y7, y8⟩ | y
  · exact Or.inl ⟨y1, k', p', i', c', m', K', V', y2, y3, y4, y5.2, y6, y8⟩
  · exact Or.inr y
end TE
