/-! ===== L3: calls that only read ===== -/
section RD
variable {b : Nat}
theorem s_6 : q_st6 b (b + 152) (z_I b) := by
  intro z h I
  obtain ⟨c, κ, σ, W, R, J, V⟩ := z_view I
  have eH := z_no R
  rcases V with ⟨v1, v2, -⟩ | ⟨n, po, o, nc, X, hN, -⟩
  · have e3 := l_X12_ribbon (b + 152) h σ (r := -1) (by
      unfold t_X12_ribbon
      rw [z_isRope0 v2, Option.bind_some, if_pos rfl])
    rw [eH] at e3
    refine ⟨-1, ?_, z_fs R, e3, I⟩
    unfold m_X11_ribbon
    rw [Wm5 W, Option.bind_some, Wgo W, v1, Option.bind_some, if_pos rfl]
  · have e3 := l_X12_ribbon (b + 152) h σ (z_ribbon X.2.2.2.2.2.1)
    rw [eH] at e3
    refine ⟨_, ?_, z_fs R, e3, I⟩
    unfold m_X11_ribbon
    rw [Wm5 W, Option.bind_some, Wgo W, X.2.1, Option.bind_some, if_neg (by intro e; cases e), Option.bind_some, Wgt W, Option.bind_some, gi10_0 (Ww7 W), Option.bind_some, X.2.2.2.2.2.2.2.1.1]
theorem s_5 : q_st5 b (b + 152) (z_I b) := by
  intro z h a1 a2 I
  obtain ⟨c, κ, σ, W, R, J, V⟩ := z_view I
  have eH := z_no R
  have no : ∀ r, m_X11_puller h b a1 a2 = some r → t_X12_puller σ a1 a2 = some r → ∃ (r : Int32), m_X11_puller h b a1 a2 = some r ∧ (∃ fs, h (b + 152) = .inr (12, fs)) ∧ m_X12_puller h (b + 152) a1 a2 = some r ∧ z_I b z h := fun r e1 e2 => by
    have e3 := l_X12_puller (b + 152) h σ a1 a2 e2
    rw [eH] at e3
    exact ⟨_, e1, z_fs R, e3, I⟩
  rcases V with ⟨v1, v2, -⟩ | ⟨n, po, o, nc, X, hN, -⟩
  · refine no (-1) ?_ ?_
    · unfold m_X11_puller
      rw [Wm5 W, Option.bind_some, z_has0 W v1, Option.bind_some, if_pos rfl]
    · unfold t_X12_puller
      rw [z_isPuller0 v2, Option.bind_some, if_pos rfl]
  · have hn := X.2.2.2.2.2.1.1
    have h3 := X.2.2.2.2.2.1.2.2.1
    have ht := X.2.2.2.2.2.2.2.1
    have ho := X.2.2.2.2.1
    have G4 := X.2.2.2.1
    rcases z_hasP X a1 with ⟨p, hp, rfl, i1, x1⟩ | ⟨i1, x1⟩
    rotate_left
    · refine no (-1) ?_ ?_
      · unfold m_X11_puller
        rw [Wm5 W, Option.bind_some, i1, Option.bind_some]
        exact if_pos rfl
      · unfold t_X12_puller
        rw [x1, Option.bind_some]
        exact if_pos rfl
    have hp8 : p < 8 := by omega
    obtain ⟨t3, t4, t5, t6⟩ := ht.2.2.2 p hp
    obtain ⟨o4, o5, o6, o7⟩ := ho.2.2.2.2 p hp
    by_cases c0 : a2 = 0
    · refine no (r_A σ 20 (12 + 5 * p)) ?_ ?_
      · unfold m_X11_puller
        rw [Wm5 W, Option.bind_some, i1, Option.bind_some, if_neg (by decide), if_pos c0, Option.bind_some, Wgt W, Option.bind_some, gn10_3 (Ww7 W), Option.bind_some, ai10_3 (Ww7 W), t_ai_in hp8 (by decide), Option.bind_some, t3]
      · unfold t_X12_puller
        rw [x1, Option.bind_some, if_neg (by decide), if_pos c0, z_sideOf hp8]
        rfl
    by_cases c1 : a2 = 1
    · refine no (r_A σ 20 (52 + p)) ?_ ?_
      · unfold m_X11_puller
        rw [Wm5 W, Option.bind_some, i1, Option.bind_some, if_neg (by decide), if_neg c0, if_pos c1, Option.bind_some, Wgr W X.2.1, Option.bind_some, gn4_5 G4, Option.bind_some, ai4_5 G4, t_ai_in hp8 (by decide), Option.bind_some, o5]
      · unfold t_X12_puller
        rw [x1, Option.bind_some, if_neg (by decide), if_neg c0, if_pos c1, show (52 : Int32) + nI p = nI (52 + p) from nI_add 52 p, t_ai_in (by omega) (by decide)]
        rfl
    by_cases c2 : a2 = 2
    · refine no (r_A σ 20 (14 + 5 * p)) ?_ ?_
      · unfold m_X11_puller
        rw [Wm5 W, Option.bind_some, i1, Option.bind_some, if_neg (by decide), if_neg c0, if_neg c1, if_pos c2, Option.bind_some, Wgt W, Option.bind_some, gn10_5 (Ww7 W), Option.bind_some, ai10_5 (Ww7 W), t_ai_in hp8 (by decide), Option.bind_some, t5]
      · unfold t_X12_puller
        rw [x1, Option.bind_some, if_neg (by decide), if_neg c0, if_neg c1, if_pos c2, z_windOf hp8]
        rfl
    by_cases c3 : a2 = 3
    · refine no (r_A σ 20 (60 + p)) ?_ ?_
      · unfold m_X11_puller
        rw [Wm5 W, Option.bind_some, i1, Option.bind_some, if_neg (by decide), if_neg c0, if_neg c1, if_neg c2, if_pos c3, Option.bind_some, Wgr W X.2.1, Option.bind_some, gn4_7 G4, Option.bind_some, ai4_7 G4, t_ai_in hp8 (by decide), Option.bind_some, o7]
      · unfold t_X12_puller
        rw [x1, Option.bind_some, if_neg (by decide), if_neg c0, if_neg c1, if_neg c2, if_pos c3, show (60 : Int32) + nI p = nI (60 + p) from nI_add 60 p, t_ai_in (by omega) (by decide)]
        rfl
    by_cases c4 : a2 = 4
    · refine no (r_A σ 20 (13 + 5 * p)) ?_ ?_
      · unfold m_X11_puller
        rw [Wm5 W, Option.bind_some, i1, Option.bind_some, if_neg (by decide), if_neg c0, if_neg c1, if_neg c2, if_neg c3, if_pos c4, Option.bind_some, Wgt W, Option.bind_some, gn10_4 (Ww7 W), Option.bind_some, ai10_4 (Ww7 W), t_ai_in hp8 (by decide), Option.bind_some, t4]
      · unfold t_X12_puller
        rw [x1, Option.bind_some, if_neg (by decide), if_neg c0, if_neg c1, if_neg c2, if_neg c3, if_pos c4, z_placeOf hp8]
        rfl
    by_cases c5 : a2 = 5
    · refine no (if r_A σ 20 (15 + 5 * p) = 1 then 1 else 0) ?_ ?_
      · have st := l_X10_stands h (b + 14) (κ 7) (nI p) (z_stands hn ht.2.2.1 hp) (Ww7 W)
        unfold m_X11_puller
        rw [Wm5 W, Option.bind_some, i1, Option.bind_some, if_neg (by decide), if_neg c0, if_neg c1, if_neg c2, if_neg c3, if_neg c4, if_pos c5, Option.bind_some, Wgt W, Option.bind_some, ca10 (Ww7 W), st, Option.bind_some]
        unfold z_up
        by_cases e : r_A σ 20 (15 + 5 * p) = 1
        · rw [decide_eq_true e, if_pos rfl, if_neg (by decide), if_pos e]
        · rw [decide_eq_false e, if_neg e]
          rfl
      · unfold t_X12_puller
        rw [x1, Option.bind_some, if_neg (by decide), if_neg c0, if_neg c1, if_neg c2, if_neg c3, if_neg c4, if_pos c5, z_isUp hn h3 hp, Option.bind_some]
        by_cases e : r_A σ 20 (15 + 5 * p) = 1
        · rw [if_pos e, if_neg (by decide)]
        · rw [if_neg e, if_pos rfl]
    by_cases c6 : a2 = 6
    · refine no (r_A σ 20 (16 + 5 * p)) ?_ ?_
      · unfold m_X11_puller
        rw [Wm5 W, Option.bind_some, i1, Option.bind_some, if_neg (by decide), if_neg c0, if_neg c1, if_neg c2, if_neg c3, if_neg c4, if_neg c5, if_pos c6, Option.bind_some, Wgt W, Option.bind_some, gn10_6 (Ww7 W), Option.bind_some, ai10_6 (Ww7 W), t_ai_in hp8 (by decide), Option.bind_some, t6]
      · unfold t_X12_puller
        rw [x1, Option.bind_some, if_neg (by decide), if_neg c0, if_neg c1, if_neg c2, if_neg c3, if_neg c4, if_neg c5, if_pos c6, z_workOf hp8]
        rfl
    refine no (-1) ?_ ?_
    · unfold m_X11_puller
      rw [Wm5 W, Option.bind_some, i1, Option.bind_some, if_neg (by decide), if_neg c0, if_neg c1, if_neg c2, if_neg c3, if_neg c4, if_neg c5, if_neg c6]
    · unfold t_X12_puller
      rw [x1, Option.bind_some, if_neg (by decide), if_neg c0, if_neg c1, if_neg c2, if_neg c3, if_neg c4, if_neg c5, if_neg c6]
theorem s_13 : q_st13 b (b + 152) (z_I b) := by
  intro z h a1 I
  obtain ⟨c, κ, σ, W, R, J, V⟩ := z_view I
  have eH := z_no R
  have no : ∀ r, m_X11_fair h b a1 = some r → t_X12_fair σ a1 = some r → ∃ (r : Int32), m_X11_fair h b a1 = some r ∧ (∃ fs, h (b + 152) = .inr (12, fs)) ∧ m_X12_fair h (b + 152) a1 = some r ∧ z_I b z h := fun r e1 e2 => by
    have e3 := l_X12_fair (b + 152) h σ a1 e2
    rw [eH] at e3
    exact ⟨_, e1, z_fs R, e3, I⟩
  rcases V with ⟨v1, v2, -⟩ | ⟨n, po, o, nc, X, hN, -⟩
  · refine no (-1) ?_ ?_
    · unfold m_X11_fair
      rw [Wm5 W, Option.bind_some, Wgo W, v1, Option.bind_some, if_pos rfl]
    · unfold t_X12_fair
      rw [z_isRope0 v2, Option.bind_some, if_pos rfl]
  · have hR := z_isRope1 X.2.2.2.2.2.1
    have G4 := X.2.2.2.1
    obtain ⟨st, S⟩ := z_st_of (σ := σ) X.2.2.2.2.2.1 X.2.2.2.2.1
    rcases z_rng a1 0 1 (L := 0) (H := 1) (L' := 0) (H' := 1) (by decide) (by decide) rfl rfl (by decide) (by decide) with ⟨m1, l1, u1, e1, i1, x1, y1, w1⟩ | ⟨i1, x1⟩
    rotate_left
    · refine no (-1) ?_ ?_
      · unfold m_X11_fair
        rw [Wm5 W, Option.bind_some, Wgo W, X.2.1, Option.bind_some, if_neg (by intro e; cases e)]
        rcases x1 with x1 | ⟨x1, y1, w1⟩
        · rw [if_pos x1]
        · rw [if_neg x1, if_neg w1]
      · unfold t_X12_fair
        rw [hR, Option.bind_some, if_neg (by decide), i1, Option.bind_some]
        exact if_pos rfl
    obtain ⟨w, f1, f2, f3⟩ := z_fair S a1
    have g1 := l_X4_fairestSet h po o f1 G4
    have g2 := l_X4_differenceBy h po o (nI w) f2 G4
    refine no (if a1 = 0 then nI (z_ap st n w) else nI w) ?_ ?_
    · unfold m_X11_fair
      rw [Wm5 W, Option.bind_some, Wgo W, X.2.1, Option.bind_some, if_neg (by intro e; cases e), if_neg x1, if_pos w1, Option.bind_some, Wgr W X.2.1, Option.bind_some, ca4 G4, g1, Option.bind_some]
      by_cases c0 : a1 = 0
      · rw [if_pos c0, if_pos c0, Option.bind_some, Wgr W X.2.1, Option.bind_some, ca4 G4, g2, Option.bind_some]
      · rw [if_neg c0, if_neg c0]
    · unfold t_X12_fair
      rw [hR, Option.bind_some, if_neg (by decide), i1, Option.bind_some, if_neg (by decide)]
      exact f3
theorem s_16 : q_st16 b (b + 152) (z_I b) := by
  intro z h a1 I
  obtain ⟨c, κ, σ, W, R, J, V⟩ := z_view I
  have eH := z_no R
  have no : ∀ r, m_X11_fewest h b a1 = some r → t_X12_fewest σ a1 = some r → ∃ (r : Int32), m_X11_fewest h b a1 = some r ∧ (∃ fs, h (b + 152) = .inr (12, fs)) ∧ m_X12_fewest h (b + 152) a1 = some r ∧ z_I b z h := fun r e1 e2 => by
    have e3 := l_X12_fewest (b + 152) h σ a1 e2
    rw [eH] at e3
    exact ⟨_, e1, z_fs R, e3, I⟩
  rcases V with ⟨v1, v2, -⟩ | ⟨n, po, o, nc, X, hN, -⟩
  · refine no (-1) ?_ ?_
    · unfold m_X11_fewest
      rw [Wm5 W, Option.bind_some, Wgo W, v1, Option.bind_some, if_pos rfl]
    · unfold t_X12_fewest
      rw [z_isRope0 v2, Option.bind_some, if_pos rfl]
  · have hR := z_isRope1 X.2.2.2.2.2.1
    have G4 := X.2.2.2.1
    have hn := X.2.2.2.2.2.1.1
    have o3 : g_I o 3 = nI n := X.2.2.2.2.1.1
    obtain ⟨st, S⟩ := z_st_of (σ := σ) X.2.2.2.2.2.1 X.2.2.2.2.1
    rcases z_rng a1 0 1 (L := 0) (H := 1) (L' := 0) (H' := 1) (by decide) (by decide) rfl rfl (by decide) (by decide) with ⟨m1, l1, u1, e1, i1, x1, y1, w1⟩ | ⟨i1, x1⟩
    rotate_left
    · refine no (-1) ?_ ?_
      · unfold m_X11_fewest
        rw [Wm5 W, Option.bind_some, Wgo W, X.2.1, Option.bind_some, if_neg (by intro e; cases e)]
        rcases x1 with x1 | ⟨x1, y1, w1⟩
        · rw [if_pos x1]
        · rw [if_neg x1, if_neg w1]
      · unfold t_X12_fewest
        rw [hR, Option.bind_some, if_neg (by decide), i1, Option.bind_some]
        exact if_pos rfl
    by_cases hn0 : n = 0
    · refine no (-2) ?_ ?_
      · unfold m_X11_fewest
        rw [Wm5 W, Option.bind_some, Wgo W, X.2.1, Option.bind_some, if_neg (by intro e; cases e), if_neg x1, if_pos w1, Option.bind_some, Wgr W X.2.1, Option.bind_some, gi4_3 G4, Option.bind_some, o3, if_pos (by rw [hn0]; rfl)]
      · unfold t_X12_fewest
        rw [hR, Option.bind_some, if_neg (by decide), i1, Option.bind_some, if_neg (by decide)]
        exact z_few0 S a1 hn0
    obtain ⟨w, hw, f1, f3⟩ := z_fewest S a1 (by omega)
    have g1 := l_X4_smallestSet h po o f1 G4
    refine no (if a1 = 0 then nI (z_pc w) else nI w) ?_ ?_
    · unfold m_X11_fewest
      rw [Wm5 W, Option.bind_some, Wgo W, X.2.1, Option.bind_some, if_neg (by intro e; cases e), if_neg x1, if_pos w1, Option.bind_some, Wgr W X.2.1, Option.bind_some, gi4_3 G4, Option.bind_some, o3, if_neg (nI_ne0 (by omega) (by omega)), Option.bind_some, Wgr W X.2.1, Option.bind_some, ca4 G4, g1, Option.bind_some]
      by_cases c0 : a1 = 0
      · rw [if_pos c0, if_pos c0, z_bitc w hw]
        rfl
      · rw [if_neg c0, if_neg c0]
    · unfold t_X12_fewest
      rw [hR, Option.bind_some, if_neg (by decide), i1, Option.bind_some, if_neg (by decide)]
      exact f3
theorem s_17 : q_st17 b (b + 152) (z_I b) := by
  intro z h I
  obtain ⟨c, κ, σ, W, R, J, V⟩ := z_view I
  have eH := z_no R
  have no : ∀ r, m_X11_needed h b = some r → t_X12_needed σ = some r → ∃ (r : Int32), m_X11_needed h b = some r ∧ (∃ fs, h (b + 152) = .inr (12, fs)) ∧ m_X12_needed h (b + 152) = some r ∧ z_I b z h := fun r e1 e2 => by
    have e3 := l_X12_needed (b + 152) h σ e2
    rw [eH] at e3
    exact ⟨_, e1, z_fs R, e3, I⟩
  rcases V with ⟨v1, v2, -⟩ | ⟨n, po, o, nc, X, hN, -⟩
  · refine no (-1) ?_ ?_
    · unfold m_X11_needed
      rw [Wm5 W, Option.bind_some, Wgo W, v1, Option.bind_some, if_pos rfl]
    · unfold t_X12_needed
      rw [z_isRope0 v2, Option.bind_some, if_pos rfl]
  · have hR := z_isRope1 X.2.2.2.2.2.1
    have G4 := X.2.2.2.1
    have hn := X.2.2.2.2.2.1.1
    obtain ⟨st, S⟩ := z_st_of (σ := σ) X.2.2.2.2.2.1 X.2.2.2.2.1
    obtain ⟨r, f1, f2⟩ := z_needL S n 0 q_fu q_fu 0 (by omega) (by show n < 5000; omega) (by show n < 5000; omega)
    have g1 := l_X4_neededSet h po o (show t_X4_neededSet o = some r from f1) G4
    refine no r ?_ ?_
    · unfold m_X11_needed
      rw [Wm5 W, Option.bind_some, Wgo W, X.2.1, Option.bind_some, if_neg (by intro e; cases e), Option.bind_some, Wgr W X.2.1, Option.bind_some, ca4 G4, g1, Option.bind_some]
    · unfold t_X12_needed
      rw [hR, Option.bind_some, if_neg (by decide)]
      exact f2
theorem s_14 : q_st14 b (b + 152) (z_I b) := by
  intro z h a1 I
  obtain ⟨c, κ, σ, W, R, J, V⟩ := z_view I
  have eH := z_no R
  have no : ∀ r, m_X11_swings h b a1 = some r → t_X12_swings σ a1 = some r → ∃ (r : Int32), m_X11_swings h b a1 = some r ∧ (∃ fs, h (b + 152) = .inr (12, fs)) ∧ m_X12_swings h (b + 152) a1 = some r ∧ z_I b z h := fun r e1 e2 => by
    have e3 := l_X12_swings (b + 152) h σ a1 e2
    rw [eH] at e3
    exact ⟨_, e1, z_fs R, e3, I⟩
  rcases V with ⟨v1, v2, -⟩ | ⟨n, po, o, nc, X, hN, -⟩
  · refine no (-1) ?_ ?_
    · unfold m_X11_swings
      rw [Wm5 W, Option.bind_some, z_has0 W v1, Option.bind_some, if_pos rfl]
    · unfold t_X12_swings
      rw [z_isPuller0 v2, Option.bind_some, if_pos rfl]
  · have G4 := X.2.2.2.1
    have hn := X.2.2.2.2.2.1.1
    have h256 : 2 ^ n ≤ 256 := Nat.le_trans (Nat.pow_le_pow_right (by decide) hn) (by decide)
    obtain ⟨st, S⟩ := z_st_of (σ := σ) X.2.2.2.2.2.1 X.2.2.2.2.1
    rcases z_hasP X a1 with ⟨p, hp, rfl, i1, x1⟩ | ⟨i1, x1⟩
    rotate_left
    · refine no (-1) ?_ ?_
      · unfold m_X11_swings
        rw [Wm5 W, Option.bind_some, i1, Option.bind_some]
        exact if_pos rfl
      · unfold t_X12_swings
        rw [x1, Option.bind_some]
        exact if_pos rfl
    obtain ⟨r, f1, f2⟩ := z_tipsL S hp false (2 ^ n) 0 q_fu q_fu 0 (by omega) (by show 2 ^ n < 5000; omega) (by show 2 ^ n < 5000; omega)
    have g1 := l_X4_tipsBy h po o (nI p) 0 (show t_X4_tipsBy o (nI p) 0 = some r from f1) G4
    refine no r ?_ ?_
    · unfold m_X11_swings
      rw [Wm5 W, Option.bind_some, i1, Option.bind_some, if_neg (by decide), Option.bind_some, Wgr W X.2.1, Option.bind_some, ca4 G4, g1, Option.bind_some]
    · unfold t_X12_swings
      rw [x1, Option.bind_some, if_neg (by decide)]
      exact f2
theorem s_15 : q_st15 b (b + 152) (z_I b) := by
  intro z h a1 I
  obtain ⟨c, κ, σ, W, R, J, V⟩ := z_view I
  have eH := z_no R
  have no : ∀ r, m_X11_shares h b a1 = some r → t_X12_shares σ a1 = some r → ∃ (r : Int32), m_X11_shares h b a1 = some r ∧ (∃ fs, h (b + 152) = .inr (12, fs)) ∧ m_X12_shares h (b + 152) a1 = some r ∧ z_I b z h := fun r e1 e2 => by
    have e3 := l_X12_shares (b + 152) h σ a1 e2
    rw [eH] at e3
    exact ⟨_, e1, z_fs R, e3, I⟩
  rcases V with ⟨v1, v2, -⟩ | ⟨n, po, o, nc, X, hN, -⟩
  · refine no (-1) ?_ ?_
    · unfold m_X11_shares
      rw [Wm5 W, Option.bind_some, z_has0 W v1, Option.bind_some, if_pos rfl]
    · unfold t_X12_shares
      rw [z_isPuller0 v2, Option.bind_some, if_pos rfl]
  · have G4 := X.2.2.2.1
    have hn := X.2.2.2.2.2.1.1
    have h256 : 2 ^ n ≤ 256 := Nat.le_trans (Nat.pow_le_pow_right (by decide) hn) (by decide)
    obtain ⟨st, S⟩ := z_st_of (σ := σ) X.2.2.2.2.2.1 X.2.2.2.2.1
    rcases z_hasP X a1 with ⟨p, hp, rfl, i1, x1⟩ | ⟨i1, x1⟩
    rotate_left
    · refine no (-1) ?_ ?_
      · unfold m_X11_shares
        rw [Wm5 W, Option.bind_some, i1, Option.bind_some]
        exact if_pos rfl
      · unfold t_X12_shares
        rw [x1, Option.bind_some]
        exact if_pos rfl
    obtain ⟨r, f1, f2⟩ := z_tipsL S hp true (2 ^ n) 0 q_fu q_fu 0 (by omega) (by show 2 ^ n < 5000; omega) (by show 2 ^ n < 5000; omega)
    have g1 := l_X4_tipsBy h po o (nI p) 1 (show t_X4_tipsBy o (nI p) 1 = some r from f1) G4
    refine no r ?_ ?_
    · unfold m_X11_shares
      rw [Wm5 W, Option.bind_some, i1, Option.bind_some, if_neg (by decide), Option.bind_some, Wgr W X.2.1, Option.bind_some, ca4 G4, g1, Option.bind_some]
    · unfold t_X12_shares
      rw [x1, Option.bind_some, if_neg (by decide)]
      exact f2
/-- pence: both loops in step -/
theorem z_penceL {t : g_S} {σ : r_S} {n p : Nat} {a1 all own : Int32} (hn : n ≤ 8) (h3 : r_A σ 20 3 = nI n) (hp : p < n) (ht : ∀ q, q < n → g_A t 6 q = r_A σ 20 (16 + 5 * q)) (hall : ¬ all = 0) (ho : own = a1 * r_A σ 20 (16 + 5 * p)) : ∀ (m k fu fu' : Nat) (x5 x6 : Int32), k + m = n → m < fu → m < fu' → ∃ r, t_X10_penceOf_36 fu t a1 (nI p) (nI n) all x5 x6 (q_rmi own all) (nI k) = some r ∧ t_X12_pence_51 fu' σ a1 (nI p) all own x5 x6 (nI k) = some r := by
  intro m
  induction m with
  | zero =>
    intro k fu fu' x5 x6 hk hf hf'
    obtain ⟨fu, rfl⟩ := Nat.exists_eq_succ_of_ne_zero (show fu ≠ 0 by omega)
    obtain ⟨fu', rfl⟩ := Nat.exists_eq_succ_of_ne_zero (show fu' ≠ 0 by omega)
    rw [t_X10_penceOf_36, t_X12_pence_51, z_a3, h3, Option.bind_some, if_pos (nI_le (by omega) (by omega)), if_pos (nI_le (by omega) (by omega)), t_ai_in (by omega) (by decide), Option.bind_some, if_neg hall, if_neg hall, ht p hp, ← ho]
    by_cases c : x5 ≤ x6
    · rw [if_pos c, if_pos c]
      exact ⟨_, rfl, rfl⟩
    · rw [if_neg c, if_neg c]
      exact ⟨_, rfl, rfl⟩
  | succ m ih =>
    intro k fu fu' x5 x6 hk hf hf'
    obtain ⟨fu, rfl⟩ := Nat.exists_eq_succ_of_ne_zero (show fu ≠ 0 by omega)
    obtain ⟨fu', rfl⟩ := Nat.exists_eq_succ_of_ne_zero (show fu' ≠ 0 by omega)
    rw [t_X10_penceOf_36, t_X12_pence_51, z_a3, h3, Option.bind_some, if_neg (nI_ge (show k < n by omega) (by omega)), if_neg (nI_ge (show k < n by omega) (by omega)), t_ai_in (show k < 8 by omega) (by decide), Option.bind_some, if_neg hall, Option.bind_some, if_neg hall, z_workOf (show k < 8 by omega), Option.bind_some, if_neg hall, if_neg hall, if_neg hall, if_neg hall, if_neg hall, ht k (by omega)]
    unfold t_X10_penceOf_93 t_X10_penceOf_96 t_X12_pence_111 t_X12_pence_115 t_X12_pence_116
    rw [nI_1]
    have e0 : ∀ v : Int32, v + 0 = v := fun v => by rw [Int32.add_zero]
    rw [e0]
    by_cases c1 : q_rmi own all < q_rmi (a1 * r_A σ 20 (16 + 5 * k)) all
    · rw [if_pos c1, if_pos c1]
      exact ih (k + 1) fu fu' _ _ (by omega) (by omega) (by omega)
    · rw [if_neg c1, if_neg c1]
      by_cases c2 : q_rmi (a1 * r_A σ 20 (16 + 5 * k)) all = q_rmi own all
      · rw [if_pos c2, if_pos c2]
        by_cases c3 : nI p ≤ nI k
        · rw [if_pos c3, if_pos c3]
          exact ih (k + 1) fu fu' _ _ (by omega) (by omega) (by omega)
        · rw [if_neg c3, if_neg c3]
          exact ih (k + 1) fu fu' _ _ (by omega) (by omega) (by omega)
      · rw [if_neg c2, if_neg c2]
        exact ih (k + 1) fu fu' _ _ (by omega) (by omega) (by omega)
theorem s_27 : q_st27 b (b + 152) (z_I b) := by
  intro z h a1 a2 I
  obtain ⟨c, κ, σ, W, R, J, V⟩ := z_view I
  have eH := z_no R
  have no : ∀ r, m_X11_pence h b a1 a2 = some r → t_X12_pence σ a1 a2 = some r → ∃ (r : Int32), m_X11_pence h b a1 a2 = some r ∧ (∃ fs, h (b + 152) = .inr (12, fs)) ∧ m_X12_pence h (b + 152) a1 a2 = some r ∧ z_I b z h := fun r e1 e2 => by
    have e3 := l_X12_pence (b + 152) h σ a1 a2 e2
    rw [eH] at e3
    exact ⟨_, e1, z_fs R, e3, I⟩
  rcases V with ⟨v1, v2, -⟩ | ⟨n, po, o, nc, X, hN, -⟩
  · refine no (-1) ?_ ?_
    · unfold m_X11_pence
      rw [Wm5 W, Option.bind_some, z_has0 W v1, Option.bind_some, if_pos rfl]
    · unfold t_X12_pence
      rw [z_isPuller0 v2, Option.bind_some, if_pos rfl]
  · have G4 := X.2.2.2.1
    have hn := X.2.2.2.2.2.1.1
    have h3 := X.2.2.2.2.2.1.2.2.1
    have ht := X.2.2.2.2.2.2.2.1
    rcases z_hasP X a2 with ⟨p, hp, rfl, i1, x1⟩ | ⟨i1, x1⟩
    rotate_left
    · refine no (-1) ?_ ?_
      · unfold m_X11_pence
        rw [Wm5 W, Option.bind_some, i1, Option.bind_some]
        exact if_pos rfl
      · unfold t_X12_pence
        rw [x1, Option.bind_some]
        exact if_pos rfl
    rcases z_rng a1 0 9999 (L := 0) (H := 9999) (L' := 0) (H' := 9999) (by decide) (by decide) rfl rfl (by decide) (by decide) with ⟨m2, l2, u2, e2, i2, x2, y2, w2⟩ | ⟨i2, x2⟩
    rotate_left
    · refine no (-1) ?_ ?_
      · unfold m_X11_pence
        rw [Wm5 W, Option.bind_some, i1, Option.bind_some, if_neg (by decide)]
        rcases x2 with x2 | ⟨x2, y2, w2⟩
        · rw [if_pos x2]
        · rw [if_neg x2, if_neg w2]
      · unfold t_X12_pence
        rw [x1, Option.bind_some, if_neg (by decide), i2, Option.bind_some]
        exact if_pos rfl
    have es : z_sum (g_A (κ 7) 6) n = z_sum (fun q => r_A σ 20 (16 + 5 * q)) n := z_sum_ext (fun q hq => (ht.2.2.2 q hq).2.2.2)
    obtain ⟨all, hall⟩ : ∃ all, all = z_sum (fun q => r_A σ 20 (16 + 5 * q)) n := ⟨_, rfl⟩
    have ew : t_X10_workedTogether (κ 7) (nI n) = some all := by rw [z_workedTogether hn, es, hall]
    have er : t_X12_workAll σ = some all := by rw [z_workAll hn h3, hall]
    have main : ∃ r, t_X10_penceOf (κ 7) a1 (nI p) (nI n) = some r ∧ t_X12_pence σ a1 (nI p) = some r := by
      have q1 : t_X10_penceOf (κ 7) a1 (nI p) (nI n) = if all = 0 then some 0 else t_X10_penceOf_36 q_fu (κ 7) a1 (nI p) (nI n) all a1 0 (q_rmi (a1 * r_A σ 20 (16 + 5 * p)) all) 0 := by
        unfold t_X10_penceOf
        rw [ew, Option.bind_some]
        by_cases c0 : all = 0
        · rw [if_pos c0, if_pos c0]
        · rw [if_neg c0, if_neg c0, t_ai_in (show p < 8 by omega) (by decide), Option.bind_some, if_neg c0, (ht.2.2.2 p hp).2.2.2]
      have q2 : t_X12_pence σ a1 (nI p) = if all = 0 then some 0 else t_X12_pence_51 q_fu σ a1 (nI p) all (a1 * r_A σ 20 (16 + 5 * p)) a1 0 0 := by
        unfold t_X12_pence
        rw [x1, Option.bind_some, if_neg (by decide), i2, Option.bind_some, if_neg (by decide), er, Option.bind_some]
        by_cases c0 : all = 0
        · rw [if_pos c0, if_pos c0]
        · rw [if_neg c0, if_neg c0, z_workOf (show p < 8 by omega), Option.bind_some]
      rw [q1, q2]
      by_cases c0 : all = 0
      · rw [if_pos c0, if_pos c0]
        exact ⟨0, rfl, rfl⟩
      · rw [if_neg c0, if_neg c0]
        exact z_penceL hn h3 hp (fun q hq => (ht.2.2.2 q hq).2.2.2) c0 rfl n 0 q_fu q_fu a1 0 (by omega) (by show n < 5000; omega) (by show n < 5000; omega)
    obtain ⟨r, f1, f2⟩ := main
    have g1 := l_X10_penceOf h (b + 14) (κ 7) a1 (nI p) (nI n) f1 (Ww7 W)
    refine no r ?_ f2
    unfold m_X11_pence
    rw [Wm5 W, Option.bind_some, i1, Option.bind_some, if_neg (by decide), if_neg x2, if_pos w2, Option.bind_some, Wgt W, Option.bind_some, Option.bind_some, Wgr W X.2.1, Option.bind_some, gi4_3 G4, Option.bind_some, X.2.2.2.2.1.1, ca10 (Ww7 W), g1]
    rfl
end RD
