/-! ===== L3: the calls send and front ===== -/
/-- other sides and PLACES, all else as it was -/
theorem z_VtP {t t' : g_S} {s s' : Nat → Int32} {a q : Nat → Nat} {n : Nat} (hn : n ≤ 8) (hV : z_V s n) (ht : z_t t s n) (ha : ∀ i, i < n → a i ≤ 1 ∧ s' (12 + 5 * i) = nI (a i) ∧ s' (13 + 5 * i) = nI (q i)) (H : z_Pn a q n) (hs : ∀ j, (∀ i, i < n → j ≠ 12 + 5 * i ∧ j ≠ 13 + 5 * i) → s' j = s j) (tI : g_I t' = g_I t) (tA : ∀ i, i < n → g_A t' 3 i = nI (a i) ∧ g_A t' 4 i = nI (q i)) (t5 : g_A t' 5 = g_A t 5) (t6 : g_A t' 6 = g_A t 6) : z_V s' n ∧ z_t t' s' n := by
  have e : ∀ i k, i < n → (k = 14 ∨ k = 15 ∨ k = 16) → s' (k + 5 * i) = s (k + 5 * i) := fun i k hi hk => hs _ (fun r hr => ⟨by omega, by omega⟩)
  refine ⟨⟨?_, fun i hi => ?_, z_Pof hn ha H⟩, ⟨?_, ?_, ?_, fun i hi => ?_⟩⟩
  · rw [hs 11 (fun r hr => ⟨by omega, by omega⟩)]; exact hV.1
  · rw [(ha i hi).2.1, e i 14 hi (by omega), e i 16 hi (by omega)]
    exact ⟨⟨a i, (ha i hi).1, rfl⟩, (hV.2.1 i hi).2⟩
  · rw [tI, hs 11 (fun r hr => ⟨by omega, by omega⟩)]; exact ht.1
  · rw [tI, hs 10 (fun r hr => ⟨by omega, by omega⟩)]; exact ht.2.1
  · rw [tI, ht.2.2.1, show z_m (z_up s) n = z_m (z_up s') n from z_m_ext (fun i hi => by unfold z_up; rw [e i 15 hi (by omega)])]
  · rw [(ha i hi).2.1, (ha i hi).2.2, e i 14 hi (by omega), e i 16 hi (by omega), t5, t6]
    exact ⟨(tA i hi).1, (tA i hi).2, (ht.2.2.2 i hi).2.2⟩
section SG
variable {b : Nat}
theorem s_8 : q_st8 b (b + 152) (z_I b) := by
  intro z h a1 I
  obtain ⟨c, κ, σ, W, R, J, V⟩ := z_view I
  have eH := z_no R
  have no : m_X11_send h b a1 = some (-1, h) → t_X12_send σ a1 = some (-1, σ) → ∃ (r : Int32) (h1 : q_H) (h2 : q_H), m_X11_send h b a1 = some (r, h1) ∧ (∃ fs, h1 (b + 152) = .inr (12, fs)) ∧ m_X12_send h1 (b + 152) a1 = some (r, h2) ∧ z_I b z h2 := fun e1 e2 => by
    have e3 := l_X12_send (b + 152) h σ a1 e2
    rw [eH] at e3
    exact ⟨_, h, h, e1, z_fs R, e3, I⟩
  rcases V with ⟨v1, v2, -⟩ | ⟨n, po, o, nc, X, hN, hpz⟩
  · refine no ?_ ?_
    · unfold m_X11_send
      rw [Wm5 W, Option.bind_some, z_has0 W v1, Option.bind_some, if_pos rfl]
    · unfold t_X12_send
      rw [z_isPuller0 v2, Option.bind_some, if_pos rfl]
  · have hR := X.2.2.2.2.2.1
    have hn := hR.1
    rcases z_hasP X a1 with ⟨p, hp, rfl, i1, x1⟩ | ⟨i1, x1⟩
    rotate_left
    · refine no ?_ ?_
      · unfold m_X11_send
        rw [Wm5 W, Option.bind_some, i1, Option.bind_some]
        exact if_pos rfl
      · unfold t_X12_send
        rw [x1, Option.bind_some]
        exact if_pos rfl
    have hp8 : p < 8 := by omega
    obtain ⟨h1, κ1, σ1, a1, a2, W1, a4, a5, a6, a7, a8⟩ := z_act J X
    have X1 := z_X_fr X W1 a4 a5 a6 a7
    have s20 : r_A σ1 20 = r_A σ 20 := a6 20 (by decide)
    have h3 := X1.2.2.2.2.2.1.2.2.1
    have ht1 := X1.2.2.2.2.2.2.2.1
    have hV1 := X1.2.2.2.2.2.2.1
    obtain ⟨A, q, hA, HP⟩ := z_Pnat hn hV1
    have hA1 : ∀ i, i < n → A i ≤ 1 := fun i hi => (hA i hi).1
    have hA2 : ∀ i, i < n → A i ≤ 1 ∧ q i < 8 := fun i hi => ⟨(hA i hi).1, (hA i hi).2.1⟩
    have hap := hA1 p hp
    obtain ⟨t', c1, c2, c3, c4, c5⟩ := z_crossL hn hp hA2 n 0 q_fu (κ1 7) (by omega) (by show n < 5000; omega) (fun i hi => ⟨(ht1.2.2.2 i hi).1.trans (hA i hi).2.2.1, by rw [if_neg (Nat.not_lt_zero _)]; exact (ht1.2.2.2 i hi).2.1.trans (hA i hi).2.2.2⟩)
    have eM := z_oth hA1 hp
    rw [eM] at c3
    obtain ⟨s', d1, d2, d3⟩ := z_sendL (M := nI (z_cn A (1 - A p) n)) hn hp hA2 n 0 q_fu σ1 (by omega) (by show n < 5000; omega) h3 (fun i hi => ⟨(hA i hi).2.2.1, by rw [if_neg (Nat.not_lt_zero _)]; exact (hA i hi).2.2.2⟩)
    have VT := z_VtP (t' := t') (s' := s') (a := fun i => if i = p then 1 - A p else A i) (q := fun i => if i = p then z_cn A (1 - A p) n else z_qs A q p i) hn hV1 ht1 (fun i hi => ⟨by
        show (if i = p then 1 - A p else A i) ≤ 1
        by_cases e : i = p
        · rw [if_pos e]; omega
        · rw [if_neg e]; exact hA1 i hi, (d2 i hi).1, by
        show s' (13 + 5 * i) = nI (if i = p then z_cn A (1 - A p) n else z_qs A q p i)
        rw [(d2 i hi).2]
        by_cases e : i = p
        · rw [if_pos e, if_pos e]
        · rw [if_neg e, if_neg e]⟩) (z_Ps hA1 hp HP) d3 c2 c3 c4 c5
    have ec : t_X10_crossOver (κ1 7) (nI p) (nI n) = some t' := by
      unfold t_X10_crossOver
      rw [t_ai_in hp8 (by decide), Option.bind_some, (ht1.2.2.2 p hp).1, (hA p hp).2.2.1]
      exact c1
    obtain ⟨h5, p1, p2, p3⟩ := l_X10_crossOver h1 (b + 14) (κ1 7) (nI p) (nI n) ec (Ww7 W1)
    have W5 := W_7 W1 p2 p3
    have k7 : (va_up κ1 7 t') 7 = t' := va_up_at _ _ _
    obtain ⟨q1, q2, q3⟩ := z_actQ (σ2 := r_sa σ1 20 s') R J X hpz (fun a ha => (p3 a (by unfold f10; omega)).trans (a4 a ha)) W5 (fun k h7 h8 h10 hk => (va_up_of h7).trans (a5 k h8 hk))
      (by
        rw [va_up_of (by decide), z_rAn (by decide), ← s20]
        exact z_JP_fr a8 (fun i hi => va_up_of (by omega)) (fun _ _ => rfl) (fun _ _ => rfl) rfl)
      (fun k h20 _ h25 => (z_rAn h20).trans (a6 k h25)) (fun k _ h26 => a7 k h26) (fun j hj => by rw [z_rA, d3 j (fun r hr => ⟨by omega, by omega⟩), s20])
      (by rw [z_rA]; exact VT.1) (by rw [z_rA, k7]; exact VT.2) (by rw [z_rA, d3 10 (fun r hr => ⟨by omega, by omega⟩), s20]; exact X.2.2.2.2.2.2.2.2.1)
    have one : (1 : Int32) - nI (A p) = nI (1 - A p) := pk_sub (a := 1) (by omega)
    have f2 : t_X12_send σ (nI p) = some (nI (1 - A p), r_sa σ1 20 s') := by
      unfold t_X12_send
      rw [x1, Option.bind_some, if_neg (by decide), a2, Option.bind_some, z_sideOf hp8, Option.bind_some, (hA p hp).2.2.1, one, z_onesOn hn h3, Option.bind_some, z_bits _ (z_m_256 _ hn), Option.bind_some, z_pcm _ hn, z_onc (fun i hi => ⟨(hA i hi).1, (hA i hi).2.2.1⟩) (show 1 - A p < 2 by omega)]
      exact d1
    have f3 := l_X12_send (b + 152) h5 σ (nI p) f2
    rw [q2] at f3
    refine ⟨_, h5, _, ?_, q1, f3, q3⟩
    unfold m_X11_send
    rw [Wm5 W, Option.bind_some, i1, Option.bind_some, if_neg (by decide), Wm6 W, Option.bind_some, Option.bind_some, Wgt W, Option.bind_some, ca2 (Ww8 W), a1, Option.bind_some, Wm5 W1, Option.bind_some, Wgt W1, Option.bind_some, Option.bind_some, Wgr W1 X1.2.1, Option.bind_some, gi4_3 X1.2.2.2.1, Option.bind_some, X1.2.2.2.2.1.1, ca10 (Ww7 W1), p1, Option.bind_some, Wm5 W5, Option.bind_some, Wgt W5, Option.bind_some, gn10_3 (Ww7 W5), Option.bind_some, ai10_3 (Ww7 W5), t_ai_in hp8 (by decide), Option.bind_some, k7, (c3 p hp).1, if_pos rfl]
theorem s_9 : q_st9 b (b + 152) (z_I b) := by
  intro z h a1 I
  obtain ⟨c, κ, σ, W, R, J, V⟩ := z_view I
  have eH := z_no R
  have no : m_X11_front h b a1 = some (-1, h) → t_X12_front σ a1 = some (-1, σ) → ∃ (r : Int32) (h1 : q_H) (h2 : q_H), m_X11_front h b a1 = some (r, h1) ∧ (∃ fs, h1 (b + 152) = .inr (12, fs)) ∧ m_X12_front h1 (b + 152) a1 = some (r, h2) ∧ z_I b z h2 := fun e1 e2 => by
    have e3 := l_X12_front (b + 152) h σ a1 e2
    rw [eH] at e3
    exact ⟨_, h, h, e1, z_fs R, e3, I⟩
  rcases V with ⟨v1, v2, -⟩ | ⟨n, po, o, nc, X, hN, hpz⟩
  · refine no ?_ ?_
    · unfold m_X11_front
      rw [Wm5 W, Option.bind_some, z_has0 W v1, Option.bind_some, if_pos rfl]
    · unfold t_X12_front
      rw [z_isPuller0 v2, Option.bind_some, if_pos rfl]
  · have hR := X.2.2.2.2.2.1
    have hn := hR.1
    have ht := X.2.2.2.2.2.2.2.1
    rcases z_hasP X a1 with ⟨p, hp, rfl, i1, x1⟩ | ⟨i1, x1⟩
    rotate_left
    · refine no ?_ ?_
      · unfold m_X11_front
        rw [Wm5 W, Option.bind_some, i1, Option.bind_some]
        exact if_pos rfl
      · unfold t_X12_front
        rw [x1, Option.bind_some]
        exact if_pos rfl
    have hp8 : p < 8 := by omega
    obtain ⟨A, q, hA, HP⟩ := z_Pnat hn X.2.2.2.2.2.2.1
    have hA1 : ∀ i, i < n → A i ≤ 1 := fun i hi => (hA i hi).1
    have hA2 : ∀ i, i < n → A i ≤ 1 ∧ q i < 8 := fun i hi => ⟨(hA i hi).1, (hA i hi).2.1⟩
    have pl : g_A (κ 7) 4 p = nI (q p) := (ht.2.2.2 p hp).2.1.trans (hA p hp).2.2.2
    have hq8 := (hA p hp).2.1
    by_cases q0 : q p = 0
    · refine no ?_ ?_
      · unfold m_X11_front
        rw [Wm5 W, Option.bind_some, i1, Option.bind_some, if_neg (by decide), Option.bind_some, Wgt W, Option.bind_some, gn10_4 (Ww7 W), Option.bind_some, ai10_4 (Ww7 W), t_ai_in hp8 (by decide), Option.bind_some, pl, if_pos (by rw [q0]; rfl)]
      · unfold t_X12_front
        rw [x1, Option.bind_some, if_neg (by decide), z_placeOf hp8, Option.bind_some, (hA p hp).2.2.2, if_pos (by rw [q0]; rfl)]
    obtain ⟨h1, κ1, σ1, a1, a2, W1, a4, a5, a6, a7, a8⟩ := z_act J X
    have X1 := z_X_fr X W1 a4 a5 a6 a7
    have s20 : r_A σ1 20 = r_A σ 20 := a6 20 (by decide)
    have h3 := X1.2.2.2.2.2.1.2.2.1
    have ht1 := X1.2.2.2.2.2.2.2.1
    have hV1 := X1.2.2.2.2.2.2.1
    have k71 : κ1 7 = κ 7 := a5 7 (by decide) (by decide)
    have hA' : ∀ i, i < n → r_A σ1 20 (12 + 5 * i) = nI (A i) ∧ r_A σ1 20 (13 + 5 * i) = nI (q i) := fun i hi => by
      rw [s20]
      exact ⟨(hA i hi).2.2.1, (hA i hi).2.2.2⟩
    obtain ⟨t', c1, c2, c3, c4, c5, c6⟩ := z_frontC hn hp hA2 n 0 q_fu (κ1 7) (by omega) (by show n < 5000; omega) (fun i hi => ⟨(ht1.2.2.2 i hi).1.trans (hA' i hi).1, by rw [if_neg (Nat.not_lt_zero _)]; exact (ht1.2.2.2 i hi).2.1.trans (hA' i hi).2⟩)
    obtain ⟨s', d1, d2, d3⟩ := z_frontR hn hp hA2 n 0 q_fu σ1 (by omega) (by show n < 5000; omega) h3 (fun i hi => ⟨(hA' i hi).1, by rw [if_neg (Nat.not_lt_zero _)]; exact (hA' i hi).2⟩)
    have VT := z_VtP (t' := t') (s' := s') (a := A) (q := fun i => if i = p then 0 else z_qf A q p i) hn hV1 ht1 (fun i hi => ⟨hA1 i hi, (d2 i hi).1, (d2 i hi).2⟩) (z_Pf hp q0 HP) (fun j hj => d3 j (fun i hi => (hj i hi).2)) c2 (fun i hi => ⟨by rw [c3]; exact (ht1.2.2.2 i hi).1.trans (hA' i hi).1, c4 i hi⟩) c5 c6
    obtain ⟨h5, p1, p2, p3⟩ := l_X10_stepToFront h1 (b + 14) (κ1 7) (nI p) (nI n) (show t_X10_stepToFront (κ1 7) (nI p) (nI n) = some t' from c1) (Ww7 W1)
    have W5 := W_7 W1 p2 p3
    have k7 : (va_up κ1 7 t') 7 = t' := va_up_at _ _ _
    obtain ⟨q1, q2, q3⟩ := z_actQ (σ2 := r_sa σ1 20 s') R J X hpz (fun a ha => (p3 a (by unfold f10; omega)).trans (a4 a ha)) W5 (fun k h7 h8 h10 hk => (va_up_of h7).trans (a5 k h8 hk))
      (by
        rw [va_up_of (by decide), z_rAn (by decide), ← s20]
        exact z_JP_fr a8 (fun i hi => va_up_of (by omega)) (fun _ _ => rfl) (fun _ _ => rfl) rfl)
      (fun k h20 _ h25 => (z_rAn h20).trans (a6 k h25)) (fun k _ h26 => a7 k h26) (fun j hj => by rw [z_rA, d3 j (fun r hr => by omega), s20])
      (by rw [z_rA]; exact VT.1) (by rw [z_rA, k7]; exact VT.2) (by rw [z_rA, d3 10 (fun r hr => by omega), s20]; exact X.2.2.2.2.2.2.2.2.1)
    have f2 : t_X12_front σ (nI p) = some (nI (q p), r_sa σ1 20 s') := by
      unfold t_X12_front
      rw [x1, Option.bind_some, if_neg (by decide), z_placeOf hp8, Option.bind_some, (hA p hp).2.2.2, if_neg (nI_ne0 (by omega) (by omega)), a2, Option.bind_some, z_placeOf hp8, Option.bind_some, (hA' p hp).2]
      exact d1
    have f3 := l_X12_front (b + 152) h5 σ (nI p) f2
    rw [q2] at f3
    refine ⟨_, h5, _, ?_, q1, f3, q3⟩
    unfold m_X11_front
    rw [Wm5 W, Option.bind_some, i1, Option.bind_some, if_neg (by decide), Option.bind_some, Wgt W, Option.bind_some, gn10_4 (Ww7 W), Option.bind_some, ai10_4 (Ww7 W), t_ai_in hp8 (by decide), Option.bind_some, pl, if_neg (nI_ne0 (by omega) (by omega)), Wm6 W, Option.bind_some, Option.bind_some, Wgt W, Option.bind_some, ca2 (Ww8 W), a1, Option.bind_some, Wm5 W1, Option.bind_some, Wgt W1, Option.bind_some, gn10_4 (Ww7 W1), Option.bind_some, ai10_4 (Ww7 W1), k71, t_ai_in hp8 (by decide), Option.bind_some, pl, Option.bind_some, Wgt W1, Option.bind_some, Option.bind_some, Wgr W1 X1.2.1, Option.bind_some, gi4_3 X1.2.2.2.1, Option.bind_some, X1.2.2.2.2.1.1, ca10 (Ww7 W1), p1, Option.bind_some]
end SG
