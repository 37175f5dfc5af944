/-! ===== L3: what is asked of how it goes on: the calls ===== -/
section AS
variable {b : Nat}
theorem z_le1 {m : Nat} (h : m ≤ 1) : nI m = 0 ∨ nI m = 1 := by
  have : m = 0 ∨ m = 1 := by omega
  rcases this with rfl | rfl
  · exact Or.inl rfl
  · exact Or.inr rfl
theorem s_19 : q_st19 b (b + 152) (z_I b) := by
  intro z h a1 I
  obtain ⟨c, κ, σ, W, R, J, V⟩ := z_view I
  have eH := z_no R
  have no : m_X11_over h b a1 = some (-1, h) → t_X12_over σ a1 = some (-1, σ) → ∃ (r : Int32) (h1 : q_H) (h2 : q_H), m_X11_over h b a1 = some (r, h1) ∧ (∃ fs, h1 (b + 152) = .inr (12, fs)) ∧ m_X12_over h1 (b + 152) a1 = some (r, h2) ∧ z_I b z h2 := fun e1 e2 => by
    have e3 := l_X12_over (b + 152) h σ a1 e2
    rw [eH] at e3
    exact ⟨_, h, h, e1, z_fs R, e3, I⟩
  rcases V with ⟨v1, v2, -⟩ | ⟨n, po, o, nc, X, hN, -⟩
  · refine no ?_ ?_
    · unfold m_X11_over
      rw [Wm5 W, Option.bind_some, Wgo W, v1, Option.bind_some, if_pos rfl]
    · unfold t_X12_over
      rw [z_isRope0 v2, Option.bind_some, if_pos rfl]
  · have hR := z_isRope1 X.2.2.2.2.2.1
    rcases z_rng a1 0 1 (L := 0) (H := 1) (L' := 0) (H' := 1) (by decide) (by decide) rfl rfl (by decide) (by decide) with ⟨m1, l1, u1, e1, i1, x1, y1, w1⟩ | ⟨i1, x1⟩
    rotate_left
    · refine no ?_ ?_
      · unfold m_X11_over
        rw [Wm5 W, Option.bind_some, Wgo W, X.2.1, Option.bind_some, if_neg (by intro e; cases e)]
        rcases x1 with x1 | ⟨x1, y1, w1⟩
        · rw [if_pos x1]
        · rw [if_neg x1, if_neg w1]
      · unfold t_X12_over
        rw [hR, Option.bind_some, if_neg (by decide), i1, Option.bind_some]
        exact if_pos rfl
    have E1 : True := trivial
    obtain ⟨r, h', κ', σ', q1, q2, q3, q4, q5, q6, q7⟩ := z_overX X (nI m1) (z_le1 u1)
    obtain ⟨k1, k2, k3⟩ := z_ask R J q2 q4 q5 q6 q7
    have f1 : m_X11_over h b a1 = some (r, h') := by
      unfold m_X11_over
      rw [Wm5 W, Option.bind_some, Wgo W, X.2.1, Option.bind_some, if_neg (by intro e; cases e), if_neg x1, if_pos w1, Wm9 W, Option.bind_some, Wca8 W, e1, q1]
      rfl
    have f2 : t_X12_over σ a1 = some (r, σ') := by
      unfold t_X12_over
      rw [hR, Option.bind_some, if_neg (by decide), i1, Option.bind_some, if_neg (by decide), e1]
      exact q3
    have f3 := l_X12_over (b + 152) h' σ a1 f2
    rw [k2] at f3
    exact ⟨r, h', _, f1, k1, f3, k3⟩
theorem s_26 : q_st26 b (b + 152) (z_I b) := by
  intro z h a1 I
  obtain ⟨c, κ, σ, W, R, J, V⟩ := z_view I
  have eH := z_no R
  have no : m_X11_alike h b a1 = some (-1, h) → t_X12_alike σ a1 = some (-1, σ) → ∃ (r : Int32) (h1 : q_H) (h2 : q_H), m_X11_alike h b a1 = some (r, h1) ∧ (∃ fs, h1 (b + 152) = .inr (12, fs)) ∧ m_X12_alike h1 (b + 152) a1 = some (r, h2) ∧ z_I b z h2 := fun e1 e2 => by
    have e3 := l_X12_alike (b + 152) h σ a1 e2
    rw [eH] at e3
    exact ⟨_, h, h, e1, z_fs R, e3, I⟩
  rcases V with ⟨v1, v2, -⟩ | ⟨n, po, o, nc, X, hN, -⟩
  · refine no ?_ ?_
    · unfold m_X11_alike
      rw [Wm5 W, Option.bind_some, Wgo W, v1, Option.bind_some, if_pos rfl]
    · unfold t_X12_alike
      rw [z_isRope0 v2, Option.bind_some, if_pos rfl]
  · have hR := z_isRope1 X.2.2.2.2.2.1
    rcases z_rng a1 0 1 (L := 0) (H := 1) (L' := 0) (H' := 1) (by decide) (by decide) rfl rfl (by decide) (by decide) with ⟨m1, l1, u1, e1, i1, x1, y1, w1⟩ | ⟨i1, x1⟩
    rotate_left
    · refine no ?_ ?_
      · unfold m_X11_alike
        rw [Wm5 W, Option.bind_some, Wgo W, X.2.1, Option.bind_some, if_neg (by intro e; cases e)]
        rcases x1 with x1 | ⟨x1, y1, w1⟩
        · rw [if_pos x1]
        · rw [if_neg x1, if_neg w1]
      · unfold t_X12_alike
        rw [hR, Option.bind_some, if_neg (by decide), i1, Option.bind_some]
        exact if_pos rfl
    have E1 : True := trivial
    obtain ⟨r, h', κ', σ', q1, q2, q3, q4, q5, q6, q7⟩ := z_alike X (nI m1)
    obtain ⟨k1, k2, k3⟩ := z_ask R J q2 q4 q5 q6 q7
    have f1 : m_X11_alike h b a1 = some (r, h') := by
      unfold m_X11_alike
      rw [Wm5 W, Option.bind_some, Wgo W, X.2.1, Option.bind_some, if_neg (by intro e; cases e), if_neg x1, if_pos w1, Wm9 W, Option.bind_some, Wca8 W, e1, q1]
      rfl
    have f2 : t_X12_alike σ a1 = some (r, σ') := by
      unfold t_X12_alike
      rw [hR, Option.bind_some, if_neg (by decide), i1, Option.bind_some, if_neg (by decide), e1]
      exact q3
    have f3 := l_X12_alike (b + 152) h' σ a1 f2
    rw [k2] at f3
    exact ⟨r, h', _, f1, k1, f3, k3⟩
theorem s_21 : q_st21 b (b + 152) (z_I b) := by
  intro z h a1 a2 I
  obtain ⟨c, κ, σ, W, R, J, V⟩ := z_view I
  have eH := z_no R
  have no : m_X11_trade h b a1 a2 = some (-2, h) → t_X12_trade σ a1 a2 = some (-2, σ) → ∃ (r : Int32) (h1 : q_H) (h2 : q_H), m_X11_trade h b a1 a2 = some (r, h1) ∧ (∃ fs, h1 (b + 152) = .inr (12, fs)) ∧ m_X12_trade h1 (b + 152) a1 a2 = some (r, h2) ∧ z_I b z h2 := fun e1 e2 => by
    have e3 := l_X12_trade (b + 152) h σ a1 a2 e2
    rw [eH] at e3
    exact ⟨_, h, h, e1, z_fs R, e3, I⟩
  rcases V with ⟨v1, v2, -⟩ | ⟨n, po, o, nc, X, hN, -⟩
  · refine no ?_ ?_
    · unfold m_X11_trade
      rw [Wm5 W, Option.bind_some, Wgo W, v1, Option.bind_some, if_pos rfl]
    · unfold t_X12_trade
      rw [z_isRope0 v2, Option.bind_some, if_pos rfl]
  · have hR := z_isRope1 X.2.2.2.2.2.1
    rcases z_rng a1 1 40 (L := 1) (H := 40) (L' := 1) (H' := 40) (by decide) (by decide) rfl rfl (by decide) (by decide) with ⟨m1, l1, u1, e1, i1, x1, y1, w1⟩ | ⟨i1, x1⟩
    rotate_left
    · refine no ?_ ?_
      · unfold m_X11_trade
        rw [Wm5 W, Option.bind_some, Wgo W, X.2.1, Option.bind_some, if_neg (by intro e; cases e)]
        rcases x1 with x1 | ⟨x1, y1, w1⟩
        · rw [if_pos x1]
        · rw [if_neg x1, if_pos y1]
      · unfold t_X12_trade
        rw [hR, Option.bind_some, if_neg (by decide), i1, Option.bind_some]
        exact if_pos rfl
    rcases z_rng a2 0 2 (L := 0) (H := 2) (L' := 0) (H' := 2) (by decide) (by decide) rfl rfl (by decide) (by decide) with ⟨m2, l2, u2, e2, i2, x2, y2, w2⟩ | ⟨i2, x2⟩
    rotate_left
    · refine no ?_ ?_
      · unfold m_X11_trade
        rw [Wm5 W, Option.bind_some, Wgo W, X.2.1, Option.bind_some, if_neg (by intro e; cases e), if_neg x1, if_neg y1]
        rcases x2 with x2 | ⟨x2, y2, w2⟩
        · rw [if_pos x2]
        · rw [if_neg x2, if_neg w2]
      · unfold t_X12_trade
        rw [hR, Option.bind_some, if_neg (by decide), i1, Option.bind_some, if_neg (by decide), i2, Option.bind_some]
        exact if_pos rfl
    have E1 : True := trivial
    obtain ⟨r, h', κ', σ', q1, q2, q3, q4, q5, q6, q7⟩ := z_trade X (N := m1) (by omega) (nI m2)
    obtain ⟨k1, k2, k3⟩ := z_ask R J q2 q4 q5 q6 q7
    have f1 : m_X11_trade h b a1 a2 = some (r, h') := by
      unfold m_X11_trade
      rw [Wm5 W, Option.bind_some, Wgo W, X.2.1, Option.bind_some, if_neg (by intro e; cases e), if_neg x1, if_neg y1, if_neg x2, if_pos w2, Wm9 W, Option.bind_some, Wca8 W, e1, e2, q1]
      rfl
    have f2 : t_X12_trade σ a1 a2 = some (r, σ') := by
      unfold t_X12_trade
      rw [hR, Option.bind_some, if_neg (by decide), i1, Option.bind_some, if_neg (by decide), i2, Option.bind_some, if_neg (by decide), e1, e2]
      exact q3
    have f3 := l_X12_trade (b + 152) h' σ a1 a2 f2
    rw [k2] at f3
    exact ⟨r, h', _, f1, k1, f3, k3⟩
theorem s_22 : q_st22 b (b + 152) (z_I b) := by
  intro z h a1 a2 I
  obtain ⟨c, κ, σ, W, R, J, V⟩ := z_view I
  have eH := z_no R
  have no : m_X11_out h b a1 a2 = some (-2, h) → t_X12_out σ a1 a2 = some (-2, σ) → ∃ (r : Int32) (h1 : q_H) (h2 : q_H), m_X11_out h b a1 a2 = some (r, h1) ∧ (∃ fs, h1 (b + 152) = .inr (12, fs)) ∧ m_X12_out h1 (b + 152) a1 a2 = some (r, h2) ∧ z_I b z h2 := fun e1 e2 => by
    have e3 := l_X12_out (b + 152) h σ a1 a2 e2
    rw [eH] at e3
    exact ⟨_, h, h, e1, z_fs R, e3, I⟩
  rcases V with ⟨v1, v2, -⟩ | ⟨n, po, o, nc, X, hN, -⟩
  · refine no ?_ ?_
    · unfold m_X11_out
      rw [Wm5 W, Option.bind_some, Wgo W, v1, Option.bind_some, if_pos rfl]
    · unfold t_X12_out
      rw [z_isRope0 v2, Option.bind_some, if_pos rfl]
  · have hR := z_isRope1 X.2.2.2.2.2.1
    rcases z_rng a1 1 40 (L := 1) (H := 40) (L' := 1) (H' := 40) (by decide) (by decide) rfl rfl (by decide) (by decide) with ⟨m1, l1, u1, e1, i1, x1, y1, w1⟩ | ⟨i1, x1⟩
    rotate_left
    · refine no ?_ ?_
      · unfold m_X11_out
        rw [Wm5 W, Option.bind_some, Wgo W, X.2.1, Option.bind_some, if_neg (by intro e; cases e)]
        rcases x1 with x1 | ⟨x1, y1, w1⟩
        · rw [if_pos x1]
        · rw [if_neg x1, if_pos y1]
      · unfold t_X12_out
        rw [hR, Option.bind_some, if_neg (by decide), i1, Option.bind_some]
        exact if_pos rfl
    rcases z_rng a2 0 1 (L := 0) (H := 1) (L' := 0) (H' := 1) (by decide) (by decide) rfl rfl (by decide) (by decide) with ⟨m2, l2, u2, e2, i2, x2, y2, w2⟩ | ⟨i2, x2⟩
    rotate_left
    · refine no ?_ ?_
      · unfold m_X11_out
        rw [Wm5 W, Option.bind_some, Wgo W, X.2.1, Option.bind_some, if_neg (by intro e; cases e), if_neg x1, if_neg y1]
        rcases x2 with x2 | ⟨x2, y2, w2⟩
        · rw [if_pos x2]
        · rw [if_neg x2, if_neg w2]
      · unfold t_X12_out
        rw [hR, Option.bind_some, if_neg (by decide), i1, Option.bind_some, if_neg (by decide), i2, Option.bind_some]
        exact if_pos rfl
    have E1 : True := trivial
    obtain ⟨r, h', κ', σ', q1, q2, q3, q4, q5, q6, q7⟩ := z_out X (N := m1) (by omega) (nI m2)
    obtain ⟨k1, k2, k3⟩ := z_ask R J q2 q4 q5 q6 q7
    have f1 : m_X11_out h b a1 a2 = some (r, h') := by
      unfold m_X11_out
      rw [Wm5 W, Option.bind_some, Wgo W, X.2.1, Option.bind_some, if_neg (by intro e; cases e), if_neg x1, if_neg y1, if_neg x2, if_pos w2, Wm9 W, Option.bind_some, Wca8 W, e1, e2, q1]
      rfl
    have f2 : t_X12_out σ a1 a2 = some (r, σ') := by
      unfold t_X12_out
      rw [hR, Option.bind_some, if_neg (by decide), i1, Option.bind_some, if_neg (by decide), i2, Option.bind_some, if_neg (by decide), e1, e2]
      exact q3
    have f3 := l_X12_out (b + 152) h' σ a1 a2 f2
    rw [k2] at f3
    exact ⟨r, h', _, f1, k1, f3, k3⟩
theorem s_23 : q_st23 b (b + 152) (z_I b) := by
  intro z h a1 a2 I
  obtain ⟨c, κ, σ, W, R, J, V⟩ := z_view I
  have eH := z_no R
  have no : m_X11_strengths h b a1 a2 = some (-1, h) → t_X12_strengths σ a1 a2 = some (-1, σ) → ∃ (r : Int32) (h1 : q_H) (h2 : q_H), m_X11_strengths h b a1 a2 = some (r, h1) ∧ (∃ fs, h1 (b + 152) = .inr (12, fs)) ∧ m_X12_strengths h1 (b + 152) a1 a2 = some (r, h2) ∧ z_I b z h2 := fun e1 e2 => by
    have e3 := l_X12_strengths (b + 152) h σ a1 a2 e2
    rw [eH] at e3
    exact ⟨_, h, h, e1, z_fs R, e3, I⟩
  rcases V with ⟨v1, v2, -⟩ | ⟨n, po, o, nc, X, hN, -⟩
  · refine no ?_ ?_
    · unfold m_X11_strengths
      rw [Wm5 W, Option.bind_some, z_has0 W v1, Option.bind_some, if_pos rfl]
    · unfold t_X12_strengths
      rw [z_isPuller0 v2, Option.bind_some, if_pos rfl]
  · have hR := z_isRope1 X.2.2.2.2.2.1
    rcases z_hasP X a1 with ⟨p1, hp1, e1, i1, x1⟩ | ⟨i1, x1⟩
    rotate_left
    · refine no ?_ ?_
      · unfold m_X11_strengths
        rw [Wm5 W, Option.bind_some, i1, Option.bind_some]
        exact if_pos rfl
      · unfold t_X12_strengths
        rw [x1, Option.bind_some]
        exact if_pos rfl
    rcases z_rng a2 0 1 (L := 0) (H := 1) (L' := 0) (H' := 1) (by decide) (by decide) rfl rfl (by decide) (by decide) with ⟨m2, l2, u2, e2, i2, x2, y2, w2⟩ | ⟨i2, x2⟩
    rotate_left
    · refine no ?_ ?_
      · unfold m_X11_strengths
        rw [Wm5 W, Option.bind_some, i1, Option.bind_some, if_neg (by decide)]
        rcases x2 with x2 | ⟨x2, y2, w2⟩
        · rw [if_pos x2]
        · rw [if_neg x2, if_neg w2]
      · unfold t_X12_strengths
        rw [x1, Option.bind_some, if_neg (by decide), i2, Option.bind_some]
        exact if_pos rfl
    have E1 : True := trivial
    obtain ⟨r, h', κ', σ', q1, q2, q3, q4, q5, q6, q7⟩ := z_canS2 X hN hp1 (nI m2)
    obtain ⟨k1, k2, k3⟩ := z_ask R J q2 q4 q5 q6 q7
    have f1 : m_X11_strengths h b a1 a2 = some (r, h') := by
      unfold m_X11_strengths
      rw [Wm5 W, Option.bind_some, i1, Option.bind_some, if_neg (by decide), if_neg x2, if_pos w2, Wm9 W, Option.bind_some, Wca8 W, e1, e2, q1]
      rfl
    have f2 : t_X12_strengths σ a1 a2 = some (r, σ') := by
      unfold t_X12_strengths
      rw [x1, Option.bind_some, if_neg (by decide), i2, Option.bind_some, if_neg (by decide), e1, e2]
      rw [q3]
      rfl
    have f3 := l_X12_strengths (b + 152) h' σ a1 a2 f2
    rw [k2] at f3
    exact ⟨r, h', _, f1, k1, f3, k3⟩
theorem s_24 : q_st24 b (b + 152) (z_I b) := by
  intro z h a1 a2 I
  obtain ⟨c, κ, σ, W, R, J, V⟩ := z_view I
  have eH := z_no R
  have no : m_X11_winds h b a1 a2 = some (-1, h) → t_X12_winds σ a1 a2 = some (-1, σ) → ∃ (r : Int32) (h1 : q_H) (h2 : q_H), m_X11_winds h b a1 a2 = some (r, h1) ∧ (∃ fs, h1 (b + 152) = .inr (12, fs)) ∧ m_X12_winds h1 (b + 152) a1 a2 = some (r, h2) ∧ z_I b z h2 := fun e1 e2 => by
    have e3 := l_X12_winds (b + 152) h σ a1 a2 e2
    rw [eH] at e3
    exact ⟨_, h, h, e1, z_fs R, e3, I⟩
  rcases V with ⟨v1, v2, -⟩ | ⟨n, po, o, nc, X, hN, -⟩
  · refine no ?_ ?_
    · unfold m_X11_winds
      rw [Wm5 W, Option.bind_some, z_has0 W v1, Option.bind_some, if_pos rfl]
    · unfold t_X12_winds
      rw [z_isPuller0 v2, Option.bind_some, if_pos rfl]
  · have hR := z_isRope1 X.2.2.2.2.2.1
    rcases z_hasP X a1 with ⟨p1, hp1, e1, i1, x1⟩ | ⟨i1, x1⟩
    rotate_left
    · refine no ?_ ?_
      · unfold m_X11_winds
        rw [Wm5 W, Option.bind_some, i1, Option.bind_some]
        exact if_pos rfl
      · unfold t_X12_winds
        rw [x1, Option.bind_some]
        exact if_pos rfl
    rcases z_rng a2 0 1 (L := 0) (H := 1) (L' := 0) (H' := 1) (by decide) (by decide) rfl rfl (by decide) (by decide) with ⟨m2, l2, u2, e2, i2, x2, y2, w2⟩ | ⟨i2, x2⟩
    rotate_left
    · refine no ?_ ?_
      · unfold m_X11_winds
        rw [Wm5 W, Option.bind_some, i1, Option.bind_some, if_neg (by decide)]
        rcases x2 with x2 | ⟨x2, y2, w2⟩
        · rw [if_pos x2]
        · rw [if_neg x2, if_neg w2]
      · unfold t_X12_winds
        rw [x1, Option.bind_some, if_neg (by decide), i2, Option.bind_some]
        exact if_pos rfl
    have E1 : True := trivial
    obtain ⟨r, h', κ', σ', q1, q2, q3, q4, q5, q6, q7⟩ := z_canW2 X hN hp1 (nI m2)
    obtain ⟨k1, k2, k3⟩ := z_ask R J q2 q4 q5 q6 q7
    have f1 : m_X11_winds h b a1 a2 = some (r, h') := by
      unfold m_X11_winds
      rw [Wm5 W, Option.bind_some, i1, Option.bind_some, if_neg (by decide), if_neg x2, if_pos w2, Wm9 W, Option.bind_some, Wca8 W, e1, e2, q1]
      rfl
    have f2 : t_X12_winds σ a1 a2 = some (r, σ') := by
      unfold t_X12_winds
      rw [x1, Option.bind_some, if_neg (by decide), i2, Option.bind_some, if_neg (by decide), e1, e2]
      rw [q3]
      rfl
    have f3 := l_X12_winds (b + 152) h' σ a1 a2 f2
    rw [k2] at f3
    exact ⟨r, h', _, f1, k1, f3, k3⟩
theorem s_25 : q_st25 b (b + 152) (z_I b) := by
  intro z h a1 a2 a3 a4 I
  obtain ⟨c, κ, σ, W, R, J, V⟩ := z_view I
  have eH := z_no R
  have no : m_X11_rests h b a1 a2 a3 a4 = some (-1, h) → t_X12_rests σ a1 a2 a3 a4 = some (-1, σ) → ∃ (r : Int32) (h1 : q_H) (h2 : q_H), m_X11_rests h b a1 a2 a3 a4 = some (r, h1) ∧ (∃ fs, h1 (b + 152) = .inr (12, fs)) ∧ m_X12_rests h1 (b + 152) a1 a2 a3 a4 = some (r, h2) ∧ z_I b z h2 := fun e1 e2 => by
    have e3 := l_X12_rests (b + 152) h σ a1 a2 a3 a4 e2
    rw [eH] at e3
    exact ⟨_, h, h, e1, z_fs R, e3, I⟩
  rcases V with ⟨v1, v2, -⟩ | ⟨n, po, o, nc, X, hN, -⟩
  · refine no ?_ ?_
    · unfold m_X11_rests
      rw [Wm5 W, Option.bind_some, z_has0 W v1, Option.bind_some, if_pos rfl]
    · unfold t_X12_rests
      rw [z_isPuller0 v2, Option.bind_some, if_pos rfl]
  · have hR := z_isRope1 X.2.2.2.2.2.1
    rcases z_hasP X a1 with ⟨p1, hp1, e1, i1, x1⟩ | ⟨i1, x1⟩
    rotate_left
    · refine no ?_ ?_
      · unfold m_X11_rests
        rw [Wm5 W, Option.bind_some, i1, Option.bind_some]
        exact if_pos rfl
      · unfold t_X12_rests
        rw [x1, Option.bind_some]
        exact if_pos rfl
    rcases z_hasP X a2 with ⟨p2, hp2, e2, i2, x2⟩ | ⟨i2, x2⟩
    rotate_left
    · refine no ?_ ?_
      · unfold m_X11_rests
        rw [Wm5 W, Option.bind_some, i1, Option.bind_some, if_neg (by decide), Option.bind_some, i2, Option.bind_some]
        exact if_pos rfl
      · unfold t_X12_rests
        rw [x1, Option.bind_some, if_neg (by decide), x2, Option.bind_some]
        exact if_pos rfl
    by_cases hne : a1 = a2
    · refine no ?_ ?_
      · unfold m_X11_rests
        rw [Wm5 W, Option.bind_some, i1, Option.bind_some, if_neg (by decide), Option.bind_some, i2, Option.bind_some, if_neg (by decide)]
        exact if_pos hne
      · unfold t_X12_rests
        rw [x1, Option.bind_some, if_neg (by decide), x2, Option.bind_some, if_neg (by decide)]
        exact if_pos hne
    rcases z_rng a3 1 20 (L := 1) (H := 20) (L' := 1) (H' := 20) (by decide) (by decide) rfl rfl (by decide) (by decide) with ⟨m3, l3, u3, e3, i3, x3, y3, w3⟩ | ⟨i3, x3⟩
    rotate_left
    · refine no ?_ ?_
      · unfold m_X11_rests
        rw [Wm5 W, Option.bind_some, i1, Option.bind_some, if_neg (by decide), Option.bind_some, i2, Option.bind_some, if_neg (by decide), if_neg hne]
        rcases x3 with x3 | ⟨x3, y3, w3⟩
        · rw [if_pos x3]
        · rw [if_neg x3, if_pos y3]
      · unfold t_X12_rests
        rw [x1, Option.bind_some, if_neg (by decide), x2, Option.bind_some, if_neg (by decide), if_neg hne, i3, Option.bind_some]
        exact if_pos rfl
    rcases z_rng a4 0 2 (L := 0) (H := 2) (L' := 0) (H' := 2) (by decide) (by decide) rfl rfl (by decide) (by decide) with ⟨m4, l4, u4, e4, i4, x4, y4, w4⟩ | ⟨i4, x4⟩
    rotate_left
    · refine no ?_ ?_
      · unfold m_X11_rests
        rw [Wm5 W, Option.bind_some, i1, Option.bind_some, if_neg (by decide), Option.bind_some, i2, Option.bind_some, if_neg (by decide), if_neg hne, if_neg x3, if_neg y3]
        rcases x4 with x4 | ⟨x4, y4, w4⟩
        · rw [if_pos x4]
        · rw [if_neg x4, if_neg w4]
      · unfold t_X12_rests
        rw [x1, Option.bind_some, if_neg (by decide), x2, Option.bind_some, if_neg (by decide), if_neg hne, i3, Option.bind_some, if_neg (by decide), i4, Option.bind_some]
        exact if_pos rfl
    have E1 : True := trivial
    have hne' := hne
    rw [e1, e2] at hne'
    obtain ⟨r, h', κ', σ', q1, q2, q3, q4, q5, q6, q7⟩ := z_rests X (N := m3) (by omega) hp1 hp2 (fun e => hne' (by rw [e])) (nI m4)
    obtain ⟨k1, k2, k3⟩ := z_ask R J q2 q4 q5 q6 q7
    have f1 : m_X11_rests h b a1 a2 a3 a4 = some (r, h') := by
      unfold m_X11_rests
      rw [Wm5 W, Option.bind_some, i1, Option.bind_some, if_neg (by decide), Option.bind_some, i2, Option.bind_some, if_neg (by decide), if_neg hne, if_neg x3, if_neg y3, if_neg x4, if_pos w4, Wm9 W, Option.bind_some, Wca8 W, e1, e2, e3, e4, q1]
      rfl
    have f2 : t_X12_rests σ a1 a2 a3 a4 = some (r, σ') := by
      unfold t_X12_rests
      rw [x1, Option.bind_some, if_neg (by decide), x2, Option.bind_some, if_neg (by decide), if_neg hne, i3, Option.bind_some, if_neg (by decide), i4, Option.bind_some, if_neg (by decide), e1, e2, e3, e4]
      exact q3
    have f3 := l_X12_rests (b + 152) h' σ a1 a2 a3 a4 f2
    rw [k2] at f3
    exact ⟨r, h', _, f1, k1, f3, k3⟩
theorem s_29 : q_st29 b (b + 152) (z_I b) := by
  intro z h a1 I
  obtain ⟨c, κ, σ, W, R, J, V⟩ := z_view I
  have eH := z_no R
  have no : m_X11_ruled h b a1 = some (-3, h) → t_X12_ruled σ a1 = some (-3, σ) → ∃ (r : Int32) (h1 : q_H) (h2 : q_H), m_X11_ruled h b a1 = some (r, h1) ∧ (∃ fs, h1 (b + 152) = .inr (12, fs)) ∧ m_X12_ruled h1 (b + 152) a1 = some (r, h2) ∧ z_I b z h2 := fun e1 e2 => by
    have e3 := l_X12_ruled (b + 152) h σ a1 e2
    rw [eH] at e3
    exact ⟨_, h, h, e1, z_fs R, e3, I⟩
  rcases V with ⟨v1, v2, -⟩ | ⟨n, po, o, nc, X, hN, -⟩
  · refine no ?_ ?_
    · unfold m_X11_ruled
      rw [Wm5 W, Option.bind_some, Wgo W, v1, Option.bind_some, if_pos rfl]
    · unfold t_X12_ruled
      rw [z_isRope0 v2, Option.bind_some, if_pos rfl]
  · have hR := z_isRope1 X.2.2.2.2.2.1
    rcases z_rng a1 0 1 (L := 0) (H := 1) (L' := 0) (H' := 1) (by decide) (by decide) rfl rfl (by decide) (by decide) with ⟨m1, l1, u1, e1, i1, x1, y1, w1⟩ | ⟨i1, x1⟩
    rotate_left
    · refine no ?_ ?_
      · unfold m_X11_ruled
        rw [Wm5 W, Option.bind_some, Wgo W, X.2.1, Option.bind_some, if_neg (by intro e; cases e)]
        rcases x1 with x1 | ⟨x1, y1, w1⟩
        · rw [if_pos x1]
        · rw [if_neg x1, if_neg w1]
      · unfold t_X12_ruled
        rw [hR, Option.bind_some, if_neg (by decide), i1, Option.bind_some]
        exact if_pos rfl
    have E1 : True := trivial
    obtain ⟨r, h', κ', σ', q1, q2, q3, q4, q5, q6, q7⟩ := z_ruled X hN (nI m1)
    obtain ⟨k1, k2, k3⟩ := z_ask R J q2 q4 q5 q6 q7
    have f1 : m_X11_ruled h b a1 = some (r, h') := by
      unfold m_X11_ruled
      rw [Wm5 W, Option.bind_some, Wgo W, X.2.1, Option.bind_some, if_neg (by intro e; cases e), if_neg x1, if_pos w1, Wm9 W, Option.bind_some, gi11_4 (Ww0 W), J.2.2.1.2.1, Option.bind_some, Wca8 W, e1, q1]
      rfl
    have f2 : t_X12_ruled σ a1 = some (r, σ') := by
      unfold t_X12_ruled
      rw [hR, Option.bind_some, if_neg (by decide), i1, Option.bind_some, if_neg (by decide), e1]
      exact q3
    have f3 := l_X12_ruled (b + 152) h' σ a1 f2
    rw [k2] at f3
    exact ⟨r, h', _, f1, k1, f3, k3⟩
theorem s_30 : q_st30 b (b + 152) (z_I b) := by
  intro z h a1 I
  obtain ⟨c, κ, σ, W, R, J, V⟩ := z_view I
  have eH := z_no R
  have no : m_X11_look h b a1 = some (-1, h) → t_X12_look σ a1 = some (-1, σ) → ∃ (r : Int32) (h1 : q_H) (h2 : q_H), m_X11_look h b a1 = some (r, h1) ∧ (∃ fs, h1 (b + 152) = .inr (12, fs)) ∧ m_X12_look h1 (b + 152) a1 = some (r, h2) ∧ z_I b z h2 := fun e1 e2 => by
    have e3 := l_X12_look (b + 152) h σ a1 e2
    rw [eH] at e3
    exact ⟨_, h, h, e1, z_fs R, e3, I⟩
  rcases V with ⟨v1, v2, -⟩ | ⟨n, po, o, nc, X, hN, -⟩
  · refine no ?_ ?_
    · unfold m_X11_look
      rw [Wm5 W, Option.bind_some, Wgo W, v1, Option.bind_some, if_pos rfl]
    · unfold t_X12_look
      rw [z_isRope0 v2, Option.bind_some, if_pos rfl]
  · have hR := z_isRope1 X.2.2.2.2.2.1
    rcases z_rng a1 0 1 (L := 0) (H := 1) (L' := 0) (H' := 1) (by decide) (by decide) rfl rfl (by decide) (by decide) with ⟨m1, l1, u1, e1, i1, x1, y1, w1⟩ | ⟨i1, x1⟩
    rotate_left
    · refine no ?_ ?_
      · unfold m_X11_look
        rw [Wm5 W, Option.bind_some, Wgo W, X.2.1, Option.bind_some, if_neg (by intro e; cases e)]
        rcases x1 with x1 | ⟨x1, y1, w1⟩
        · rw [if_pos x1]
        · rw [if_neg x1, if_neg w1]
      · unfold t_X12_look
        rw [hR, Option.bind_some, if_neg (by decide), i1, Option.bind_some]
        exact if_pos rfl
    have E1 : True := trivial
    obtain ⟨r, h', κ', σ', q1, q2, q3, q4, q5, q6, q7⟩ := z_look X hN (nI m1)
    obtain ⟨k1, k2, k3⟩ := z_ask R J q2 q4 q5 q6 q7
    have f1 : m_X11_look h b a1 = some (r, h') := by
      unfold m_X11_look
      rw [Wm5 W, Option.bind_some, Wgo W, X.2.1, Option.bind_some, if_neg (by intro e; cases e), if_neg x1, if_pos w1, Wm9 W, Option.bind_some, gi11_4 (Ww0 W), J.2.2.1.2.1, Option.bind_some, Wca8 W, e1, q1]
      rfl
    have f2 : t_X12_look σ a1 = some (r, σ') := by
      unfold t_X12_look
      rw [hR, Option.bind_some, if_neg (by decide), i1, Option.bind_some, if_neg (by decide), e1]
      exact q3
    have f3 := l_X12_look (b + 152) h' σ a1 f2
    rw [k2] at f3
    exact ⟨r, h', _, f1, k1, f3, k3⟩
theorem s_32 : q_st32 b (b + 152) (z_I b) := by
  intro z h a1 a2 a3 a4 I
  obtain ⟨c, κ, σ, W, R, J, V⟩ := z_view I
  have eH := z_no R
  have no : m_X11_rain h b a1 a2 a3 a4 = some (-1, h) → t_X12_rain σ a1 a2 a3 a4 = some (-1, σ) → ∃ (r : Int32) (h1 : q_H) (h2 : q_H), m_X11_rain h b a1 a2 a3 a4 = some (r, h1) ∧ (∃ fs, h1 (b + 152) = .inr (12, fs)) ∧ m_X12_rain h1 (b + 152) a1 a2 a3 a4 = some (r, h2) ∧ z_I b z h2 := fun e1 e2 => by
    have e3 := l_X12_rain (b + 152) h σ a1 a2 a3 a4 e2
    rw [eH] at e3
    exact ⟨_, h, h, e1, z_fs R, e3, I⟩
  rcases V with ⟨v1, v2, -⟩ | ⟨n, po, o, nc, X, hN, -⟩
  · refine no ?_ ?_
    · unfold m_X11_rain
      rw [Wm5 W, Option.bind_some, Wgo W, v1, Option.bind_some, if_pos rfl]
    · unfold t_X12_rain
      rw [z_isRope0 v2, Option.bind_some, if_pos rfl]
  · have hR := z_isRope1 X.2.2.2.2.2.1
    rcases z_rng a1 1 10 (L := 1) (H := 10) (L' := 1) (H' := 10) (by decide) (by decide) rfl rfl (by decide) (by decide) with ⟨m1, l1, u1, e1, i1, x1, y1, w1⟩ | ⟨i1, x1⟩
    rotate_left
    · refine no ?_ ?_
      · unfold m_X11_rain
        rw [Wm5 W, Option.bind_some, Wgo W, X.2.1, Option.bind_some, if_neg (by intro e; cases e)]
        rcases x1 with x1 | ⟨x1, y1, w1⟩
        · rw [if_pos x1]
        · rw [if_neg x1, if_pos y1]
      · unfold t_X12_rain
        rw [hR, Option.bind_some, if_neg (by decide), i1, Option.bind_some]
        exact if_pos rfl
    rcases z_rng a2 1 60 (L := 1) (H := 60) (L' := 1) (H' := 60) (by decide) (by decide) rfl rfl (by decide) (by decide) with ⟨m2, l2, u2, e2, i2, x2, y2, w2⟩ | ⟨i2, x2⟩
    rotate_left
    · refine no ?_ ?_
      · unfold m_X11_rain
        rw [Wm5 W, Option.bind_some, Wgo W, X.2.1, Option.bind_some, if_neg (by intro e; cases e), if_neg x1, if_neg y1]
        rcases x2 with x2 | ⟨x2, y2, w2⟩
        · rw [if_pos x2]
        · rw [if_neg x2, if_neg w2]
      · unfold t_X12_rain
        rw [hR, Option.bind_some, if_neg (by decide), i1, Option.bind_some, if_neg (by decide), i2, Option.bind_some]
        exact if_pos rfl
    rcases z_rng a3 0 100 (L := 0) (H := 100) (L' := 0) (H' := 100) (by decide) (by decide) rfl rfl (by decide) (by decide) with ⟨m3, l3, u3, e3, i3, x3, y3, w3⟩ | ⟨i3, x3⟩
    rotate_left
    · refine no ?_ ?_
      · unfold m_X11_rain
        rw [Wm5 W, Option.bind_some, Wgo W, X.2.1, Option.bind_some, if_neg (by intro e; cases e), if_neg x1, if_neg y1, if_neg x2, if_pos w2]
        rcases x3 with x3 | ⟨x3, y3, w3⟩
        · rw [if_pos x3]
        · rw [if_neg x3, if_pos y3]
      · unfold t_X12_rain
        rw [hR, Option.bind_some, if_neg (by decide), i1, Option.bind_some, if_neg (by decide), i2, Option.bind_some, if_neg (by decide), i3, Option.bind_some]
        exact if_pos rfl
    rcases z_rng a4 0 1 (L := 0) (H := 1) (L' := 0) (H' := 1) (by decide) (by decide) rfl rfl (by decide) (by decide) with ⟨m4, l4, u4, e4, i4, x4, y4, w4⟩ | ⟨i4, x4⟩
    rotate_left
    · refine no ?_ ?_
      · unfold m_X11_rain
        rw [Wm5 W, Option.bind_some, Wgo W, X.2.1, Option.bind_some, if_neg (by intro e; cases e), if_neg x1, if_neg y1, if_neg x2, if_pos w2, if_neg x3, if_neg y3]
        rcases x4 with x4 | ⟨x4, y4, w4⟩
        · rw [if_pos x4]
        · rw [if_neg x4, if_neg w4]
      · unfold t_X12_rain
        rw [hR, Option.bind_some, if_neg (by decide), i1, Option.bind_some, if_neg (by decide), i2, Option.bind_some, if_neg (by decide), i3, Option.bind_some, if_neg (by decide), i4, Option.bind_some]
        exact if_pos rfl
    have E1 : True := trivial
    obtain ⟨r, h', κ', σ', q1, q2, q3, q4, q5, q6, q7⟩ := z_rain X (N := m2) (M := m1) (by omega) (by omega) (nI m3) (nI m4) J.2.2.2.1.2.1 J.2.2.2.1.2.2.1
    obtain ⟨k1, k2, k3⟩ := z_ask R J q2 q4 q5 q6 q7
    have f1 : m_X11_rain h b a1 a2 a3 a4 = some (r, h') := by
      unfold m_X11_rain
      rw [Wm5 W, Option.bind_some, Wgo W, X.2.1, Option.bind_some, if_neg (by intro e; cases e), if_neg x1, if_neg y1, if_neg x2, if_pos w2, if_neg x3, if_neg y3, if_neg x4, if_pos w4, Wm9 W, Option.bind_some, Wca8 W, e1, e2, e3, e4, q1]
      rfl
    have f2 : t_X12_rain σ a1 a2 a3 a4 = some (r, σ') := by
      unfold t_X12_rain
      rw [hR, Option.bind_some, if_neg (by decide), i1, Option.bind_some, if_neg (by decide), i2, Option.bind_some, if_neg (by decide), i3, Option.bind_some, if_neg (by decide), i4, Option.bind_some, if_neg (by decide), e1, e2, e3, e4]
      exact q3
    have f3 := l_X12_rain (b + 152) h' σ a1 a2 a3 a4 f2
    rw [k2] at f3
    exact ⟨r, h', _, f1, k1, f3, k3⟩
theorem s_18 : q_st18 b (b + 152) (z_I b) := by
  intro z h a1 a2 a3 I
  obtain ⟨c, κ, σ, W, R, J, V⟩ := z_view I
  have eH := z_no R
  have no : m_X11_ahead h b a1 a2 a3 = some (-1, h) → t_X12_ahead σ a1 a2 a3 = some (-1, σ) → ∃ (r : Int32) (h1 : q_H) (h2 : q_H), m_X11_ahead h b a1 a2 a3 = some (r, h1) ∧ (∃ fs, h1 (b + 152) = .inr (12, fs)) ∧ m_X12_ahead h1 (b + 152) a1 a2 a3 = some (r, h2) ∧ z_I b z h2 := fun e1 e2 => by
    have e3 := l_X12_ahead (b + 152) h σ a1 a2 a3 e2
    rw [eH] at e3
    exact ⟨_, h, h, e1, z_fs R, e3, I⟩
  rcases V with ⟨v1, v2, -⟩ | ⟨n, po, o, nc, X, hN, -⟩
  · refine no ?_ ?_
    · unfold m_X11_ahead
      rw [Wm5 W, Option.bind_some, Wgo W, v1, Option.bind_some, if_pos rfl]
    · unfold t_X12_ahead
      rw [z_isRope0 v2, Option.bind_some, if_pos rfl]
  · have hR := z_isRope1 X.2.2.2.2.2.1
    rcases z_rng a2 0 100 (L := 0) (H := 100) (L' := 0) (H' := 100) (by decide) (by decide) rfl rfl (by decide) (by decide) with ⟨m2, l2, u2, e2, i2, x2, y2, w2⟩ | ⟨i2, x2⟩
    rotate_left
    · refine no ?_ ?_
      · unfold m_X11_ahead
        rw [Wm5 W, Option.bind_some, Wgo W, X.2.1, Option.bind_some, if_neg (by intro e; cases e)]
        rcases x2 with x2 | ⟨x2, y2, w2⟩
        · rw [if_pos x2]
        · rw [if_neg x2, if_neg w2]
      · unfold t_X12_ahead
        rw [hR, Option.bind_some, if_neg (by decide), i2, Option.bind_some]
        exact if_pos rfl
    rcases z_rng a3 0 2 (L := 0) (H := 2) (L' := 0) (H' := 2) (by decide) (by decide) rfl rfl (by decide) (by decide) with ⟨m3, l3, u3, e3, i3, x3, y3, w3⟩ | ⟨i3, x3⟩
    rotate_left
    · refine no ?_ ?_
      · unfold m_X11_ahead
        rw [Wm5 W, Option.bind_some, Wgo W, X.2.1, Option.bind_some, if_neg (by intro e; cases e), if_neg x2, if_pos w2]
        rcases x3 with x3 | ⟨x3, y3, w3⟩
        · rw [if_pos x3]
        · rw [if_neg x3, if_pos y3]
      · unfold t_X12_ahead
        rw [hR, Option.bind_some, if_neg (by decide), i2, Option.bind_some, if_neg (by decide), i3, Option.bind_some]
        exact if_pos rfl
    have eC : m_X11_ahead h b a1 a2 a3 = if a3 = 1 then (q_ca 0 h (b + 13) (m_X0_has h (b + 13) a1)).bind fun r4 => if r4 = 0 then some (-1, h) else m_X11_ahead_49 h b a1 a2 a3 else m_X11_ahead_49 h b a1 a2 a3 := by
      unfold m_X11_ahead
      rw [Wm5 W, Option.bind_some, Wgo W, X.2.1, Option.bind_some, if_neg (by intro e; cases e), if_neg x2, if_pos w2, if_neg x3, if_neg y3]
      rfl
    have eR : t_X12_ahead σ a1 a2 a3 = if a3 = 1 then (t_X12_isPuller σ a1).bind fun r7 => if r7 = 0 then some (-1, σ) else t_X12_ahead_46 σ a1 a2 a3 else t_X12_ahead_46 σ a1 a2 a3 := by
      unfold t_X12_ahead
      rw [hR, Option.bind_some, if_neg (by decide), i2, Option.bind_some, if_neg (by decide), i3, Option.bind_some, if_neg (by decide)]
    have go : (a3 = 0 ∨ (a3 = 1 ∧ ∃ p, p < n ∧ a1 = nI p) ∨ a3 = 2) → m_X11_ahead h b a1 a2 a3 = m_X11_ahead_49 h b a1 a2 a3 → t_X12_ahead σ a1 a2 a3 = t_X12_ahead_46 σ a1 a2 a3 → ∃ (r : Int32) (h1 : q_H) (h2 : q_H), m_X11_ahead h b a1 a2 a3 = some (r, h1) ∧ (∃ fs, h1 (b + 152) = .inr (12, fs)) ∧ m_X12_ahead h1 (b + 152) a1 a2 a3 = some (r, h2) ∧ z_I b z h2 := fun ha g1 g2 => by
      obtain ⟨r, h', κ', σ', q1, q2, q3, q4, q5, q6, q7⟩ := z_ahead X (m := m2) (by omega) a1 a3 ha
      obtain ⟨k1, k2, k3⟩ := z_ask R J q2 q4 q5 q6 q7
      rw [← e2] at q1 q3
      have f3 := l_X12_ahead (b + 152) h' σ a1 a2 a3 (g2.trans q3)
      rw [k2] at f3
      refine ⟨r, h', _, g1.trans ?_, k1, f3, k3⟩
      unfold m_X11_ahead_49
      rw [Wm9 W, Option.bind_some, Wca8 W, q1]
      rfl
    by_cases c1 : a3 = 1
    · rw [if_pos c1] at eC eR
      rcases z_hasP X a1 with ⟨p1, hp1, e1, i1, x1⟩ | ⟨i1, x1⟩
      · rw [i1, Option.bind_some, if_neg (by decide)] at eC
        rw [x1, Option.bind_some, if_neg (by decide)] at eR
        exact go (Or.inr (Or.inl ⟨c1, p1, hp1, e1⟩)) eC eR
      · rw [i1, Option.bind_some, if_pos rfl] at eC
        rw [x1, Option.bind_some, if_pos rfl] at eR
        exact no eC eR
    · rw [if_neg c1] at eC eR
      refine go ?_ eC eR
      have : m3 = 0 ∨ m3 = 1 ∨ m3 = 2 := by omega
      rcases this with rfl | rfl | rfl
      · exact Or.inl e3
      · exact absurd e3 c1
      · exact Or.inr (Or.inr e3)
theorem s_20 : q_st20 b (b + 152) (z_I b) := by
  intro z h a1 a2 a3 I
  obtain ⟨c, κ, σ, W, R, J, V⟩ := z_view I
  have eH := z_no R
  have no : m_X11_row h b a1 a2 a3 = some (-2, h) → t_X12_row σ a1 a2 a3 = some (-2, σ) → ∃ (r : Int32) (h1 : q_H) (h2 : q_H), m_X11_row h b a1 a2 a3 = some (r, h1) ∧ (∃ fs, h1 (b + 152) = .inr (12, fs)) ∧ m_X12_row h1 (b + 152) a1 a2 a3 = some (r, h2) ∧ z_I b z h2 := fun e1 e2 => by
    have e3 := l_X12_row (b + 152) h σ a1 a2 a3 e2
    rw [eH] at e3
    exact ⟨_, h, h, e1, z_fs R, e3, I⟩
  rcases V with ⟨v1, v2, -⟩ | ⟨n, po, o, nc, X, hN, -⟩
  · refine no ?_ ?_
    · unfold m_X11_row
      rw [Wm5 W, Option.bind_some, z_has0 W v1, Option.bind_some, if_pos rfl]
    · unfold t_X12_row
      rw [z_isPuller0 v2, Option.bind_some, if_pos rfl]
  · rcases z_hasP X a1 with ⟨p1, hp1, e1, i1, x1⟩ | ⟨i1, x1⟩
    rotate_left
    · refine no ?_ ?_
      · unfold m_X11_row
        rw [Wm5 W, Option.bind_some, i1, Option.bind_some]
        exact if_pos rfl
      · unfold t_X12_row
        rw [x1, Option.bind_some]
        exact if_pos rfl
    rcases z_rng a2 1 4 (L := 1) (H := 4) (L' := 1) (H' := 4) (by decide) (by decide) rfl rfl (by decide) (by decide) with ⟨m2, l2, u2, e2, i2, x2, y2, w2⟩ | ⟨i2, x2⟩
    rotate_left
    · refine no ?_ ?_
      · unfold m_X11_row
        rw [Wm5 W, Option.bind_some, i1, Option.bind_some, if_neg (by decide)]
        rcases x2 with x2 | ⟨x2, y2, w2⟩
        · rw [if_pos x2]
        · rw [if_neg x2, if_pos y2]
      · unfold t_X12_row
        rw [x1, Option.bind_some, if_neg (by decide), i2, Option.bind_some]
        exact if_pos rfl
    rcases z_rng a3 0 4 (L := 0) (H := 4) (L' := 0) (H' := 4) (by decide) (by decide) rfl rfl (by decide) (by decide) with ⟨m3, l3, u3, e3, i3, x3, y3, w3⟩ | ⟨i3, x3⟩
    rotate_left
    · refine no ?_ ?_
      · unfold m_X11_row
        rw [Wm5 W, Option.bind_some, i1, Option.bind_some, if_neg (by decide), if_neg x2, if_neg y2]
        rcases x3 with x3 | ⟨x3, y3, w3⟩
        · rw [if_pos x3]
        · rw [if_neg x3, if_neg w3]
      · unfold t_X12_row
        rw [x1, Option.bind_some, if_neg (by decide), i2, Option.bind_some, if_neg (by decide), i3, Option.bind_some]
        exact if_pos rfl
    have eC : m_X11_row h b a1 a2 a3 = if a3 ≤ a2 then (m_X8_bestRow h (b + 130) a1 a2 a3).bind fun x => some (x.1, x.2) else some (-1, h) := by
      unfold m_X11_row
      rw [Wm5 W, Option.bind_some, i1, Option.bind_some, if_neg (by decide), if_neg x2, if_neg y2, if_neg x3, if_pos w3, Wm9 W, Option.bind_some, Wca8 W]
    have eR : t_X12_row σ a1 a2 a3 = (t_X12_keeps σ).bind fun σ8 => t_X12_row_48 q_fu σ8 a1 a2 a3 (-1) (-1) 0 := by
      unfold t_X12_row
      rw [x1, Option.bind_some, if_neg (by decide), i2, Option.bind_some, if_neg (by decide), i3, Option.bind_some, if_neg (by decide)]
    by_cases c3 : m3 ≤ m2
    · obtain ⟨r, h', κ', σ', q1, q2, q3, q4, q5, q6, q7⟩ := z_row X hp1 l2 (show m2 < 5 by omega) c3
      obtain ⟨k1, k2, k3⟩ := z_ask R J q2 q4 q5 q6 q7
      rw [← e1, ← e2, ← e3] at q1 q3
      have f3 := l_X12_row (b + 152) h' σ a1 a2 a3 (eR.trans q3)
      rw [k2] at f3
      refine ⟨r, h', _, eC.trans ?_, k1, f3, k3⟩
      rw [if_pos (by rw [e2, e3]; exact nI_le c3 (by omega)), q1]
      rfl
    · obtain ⟨r, h', κ', σ', q1, q2, q3, q4, q5, q6, q7⟩ := z_row X hp1 l2 (show m2 < 5 by omega) (Nat.zero_le m2)
      obtain ⟨k1, k2, k3⟩ := z_ask R J (z_q_refl W) q4 q5 q6 q7
      obtain ⟨τ, t1, t2⟩ := Option.bind_eq_some_iff.mp q3
      have t3 := z_rowW (w := a3) (by rw [e3]; exact nI_ne0 (by omega) (by omega)) (by rw [e3]; exact nI_lt (a := m2) (by omega) (by omega)) q_fu τ _ _ _ _ _ t2
      rw [← e1, ← e2] at t3
      have f3 := l_X12_row (b + 152) h σ a1 a2 a3 (eR.trans (by rw [t1, Option.bind_some]; exact t3))
      rw [k2] at f3
      refine ⟨-1, h, _, eC.trans ?_, k1, f3, k3⟩
      rw [if_neg (by rw [e2, e3]; exact nI_ge (by omega) (by omega))]
end AS
