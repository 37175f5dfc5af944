/-! ===== L3: set, undo ===== -/
theorem z_lw1 : ∀ l, l < 61 → ((1 : Int32) - nI l).toInt = 1 - (l : Int) := by decide +kernel
theorem z_lw2 : ∀ l, l < 61 → (nI l - (1 : Int32)).toInt = (l : Int) - 1 := by decide +kernel
theorem z_s100i (a : Int32) : (a - 100).toInt = a.toInt - 100 ∨ ((a - 100).toInt = a.toInt - 100 + 4294967296 ∧ a.toInt < -2147483548) := by
  have h1 := Int32.toInt_lt a
  have h2 := Int32.le_toInt a
  have e : (a - 100).toInt = (a.toInt - 100).bmod 4294967296 := by
    rw [Int32.toInt_sub]
    rfl
  rw [e]
  unfold Int.bmod
  try dsimp only
  by_cases c : a.toInt < -2147483548
  · right
    refine ⟨?_, c⟩
    split <;> omega
  · left
    split <;> omega
theorem z_setIn (a : Int32) {l : Nat} (l1 : 1 ≤ l) (l6 : l ≤ 60) : (∃ m, 101 - l ≤ m ∧ m ≤ 99 + l ∧ a = nI m ∧ (a - 100).toInt = (m : Int) - 100 ∧ m_X12_in (a - 100).toInt64 ((1 : Int32) - nI l).toInt64 (nI l - (1 : Int32)).toInt64 = some 1) ∨ ((a < nI (101 - l) ∨ nI (99 + l) < a) ∧ m_X12_in (a - 100).toInt64 ((1 : Int32) - nI l).toInt64 (nI l - (1 : Int32)).toInt64 = some 0) := by
  have g1 := @z_lg_ge (a - 100).toInt64 ((1 : Int32) - nI l).toInt64
  have g2 := @z_lg_le (a - 100).toInt64 (nI l - (1 : Int32)).toInt64
  rw [Int32.toInt_toInt64, Int32.toInt_toInt64, z_lw1 l (by omega)] at g1
  rw [Int32.toInt_toInt64, Int32.toInt_toInt64, z_lw2 l (by omega)] at g2
  have h1 := Int32.toInt_lt a
  have h2 := Int32.le_toInt a
  have hs := z_s100i a
  have q1 : a < nI (101 - l) ↔ a.toInt < ((101 - l : Nat) : Int) := by rw [Int32.lt_iff_toInt_lt, nI_toInt (by omega)]
  have q2 : nI (99 + l) < a ↔ ((99 + l : Nat) : Int) < a.toInt := by rw [Int32.lt_iff_toInt_lt, nI_toInt (by omega)]
  unfold m_X12_in
  by_cases c1 : (1 : Int) - l ≤ (a - 100).toInt
  · rw [if_neg (show ¬ lg_cmp (a - 100).toInt64 ((1 : Int32) - nI l).toInt64 < 0 by rw [Int32.not_lt]; exact g1.mpr c1)]
    by_cases c2 : (a - 100).toInt ≤ (l : Int) - 1
    · left
      have ha : ¬ a < 0 := by
        rw [Int32.lt_iff_toInt_lt, show (0 : Int32).toInt = 0 by decide]
        omega
      obtain ⟨m, hm, rfl⟩ := nI_of ha
      rw [nI_toInt hm] at hs h1 h2
      refine ⟨m, by omega, by omega, rfl, by omega, ?_⟩
      rw [if_neg (show ¬ 0 < lg_cmp (nI m - 100).toInt64 (nI l - (1 : Int32)).toInt64 by rw [Int32.not_lt]; exact g2.mpr c2)]
    · right
      rw [if_pos (show 0 < lg_cmp (a - 100).toInt64 (nI l - (1 : Int32)).toInt64 by rw [← Int32.not_le]; exact fun e => c2 (g2.mp e))]
      refine ⟨?_, rfl⟩
      rw [q1, q2]
      omega
  · right
    rw [if_pos (show lg_cmp (a - 100).toInt64 ((1 : Int32) - nI l).toInt64 < 0 by rw [← Int32.not_le]; exact fun e => c1 (g1.mp e))]
    refine ⟨?_, rfl⟩
    rw [q1, q2]
    omega
section UN
variable {b : Nat}
theorem s_11 : q_st11 b (b + 152) (z_I b) := by
  intro z h a1 I
  obtain ⟨c, κ, σ, W, R, J, V⟩ := z_view I
  have eH := z_no R
  have no : m_X11_set h b a1 = some (-1, h) → t_X12_set σ a1 = some (-1, σ) → ∃ (r : Int32) (h1 : q_H) (h2 : q_H), m_X11_set h b a1 = some (r, h1) ∧ (∃ fs, h1 (b + 152) = .inr (12, fs)) ∧ m_X12_set h1 (b + 152) a1 = some (r, h2) ∧ z_I b z h2 := fun e1 e2 => by
    have e3 := l_X12_set (b + 152) h σ a1 e2
    rw [eH] at e3
    exact ⟨_, h, h, e1, z_fs R, e3, I⟩
  rcases V with ⟨v1, v2, -⟩ | ⟨n, po, o, nc, X, hN, hpz⟩
  · refine no ?_ ?_
    · unfold m_X11_set
      rw [Wm5 W, Option.bind_some, Wgo W, v1, Option.bind_some, if_pos rfl]
    · unfold t_X12_set
      rw [z_isRope0 v2, Option.bind_some, if_pos rfl]
  · have hR := X.2.2.2.2.2.1
    have hn := hR.1
    have ht := X.2.2.2.2.2.2.2.1
    have hV := X.2.2.2.2.2.2.1
    have G4 := X.2.2.2.1
    obtain ⟨l, l1, l6, hl⟩ := hR.2.2.2.1
    have o0 : g_I o 0 = nI l := X.2.2.2.2.1.2.1.trans hl
    have e1 : t_ai 106 (r_A σ 20) 1 = some (nI l) := by rw [show t_ai 106 (r_A σ 20) 1 = some (r_A σ 20 1) from t_ai_in (j := 1) (by decide) (by decide), hl]
    have b1 : (101 : Int32) - nI l = nI (101 - l) := pk_sub (a := 101) (by omega)
    have b2 : (99 : Int32) + nI l = nI (99 + l) := nI_add 99 l
    have eC : m_X11_set h b a1 = if a1 < nI (101 - l) then some (-1, h) else if nI (99 + l) < a1 then some (-1, h) else if a1 = r_A σ 20 11 + 100 then some (-1, h) else (m_X2_keep h (b + 21) (b + 14)).bind fun h16 => (q_gn h16 b 11 5).bind fun v17 => (q_gn h16 v17 0 1).bind fun v18 => (q_pf h16 v18 10 0 (.int (a1 - 100))).bind fun h19 => some (r_A σ 20 11 + 100, h19) := by
      unfold m_X11_set
      rw [Wm5 W, Option.bind_some, Wgo W, X.2.1, Option.bind_some, if_neg (by intro e; cases e), Option.bind_some, Wgt W, Option.bind_some, gi10_0 (Ww7 W), Option.bind_some, ht.1, Option.bind_some, Wgr W X.2.1, Option.bind_some, gi4_0 G4, Option.bind_some, o0, Option.bind_some, Wgr W X.2.1, Option.bind_some, gi4_0 G4, Option.bind_some, o0, b1, b2, Wm6 W, Option.bind_some, Option.bind_some, Wgt W, Option.bind_some, ca2 (Ww8 W)]
    have eR : t_X12_set σ a1 = (m_X12_in (a1 - 100).toInt64 ((1 : Int32) - nI l).toInt64 (nI l - (1 : Int32)).toInt64).bind fun r7 => if r7 = 0 then some (-1, σ) else if a1 - 100 = r_A σ 20 11 then some (-1, σ) else (t_X12_keepsAct σ).bind fun σ12 => (t_X12_ribbon σ12).bind fun r13 => (t_si 106 σ12 20 11 (a1 - 100)).bind fun σ16 => some (r13, σ16) := by
      unfold t_X12_set
      rw [z_isRope1 hR, Option.bind_some, if_neg (by decide), e1, Option.bind_some, Option.bind_some, show t_ai 106 (r_A σ 20) 11 = some (r_A σ 20 11) from t_ai_in (j := 11) (by decide) (by decide)]
      rfl
    rcases z_setIn a1 l1 l6 with ⟨m, m1, m2, rfl, hi, i1⟩ | ⟨x1, i1⟩
    rotate_left
    · refine no ?_ ?_
      · rw [eC]
        by_cases c1 : a1 < nI (101 - l)
        · rw [if_pos c1]
        · rw [if_neg c1, if_pos (x1.resolve_left c1)]
      · rw [eR, i1, Option.bind_some, if_pos rfl]
    rw [if_neg (nI_nlt (by omega) (by omega)), if_neg (nI_nlt (by omega) (by omega))] at eC
    rw [i1, Option.bind_some, if_neg (by decide)] at eR
    have eq : nI m = r_A σ 20 11 + 100 ↔ nI m - 100 = r_A σ 20 11 := by
      constructor
      · intro e
        rw [e]
        grind
      · intro e
        rw [← e]
        grind
    by_cases cs : nI m = r_A σ 20 11 + 100
    · exact no (by rw [eC, if_pos cs]) (by rw [eR, if_pos (eq.mp cs)])
    rw [if_neg cs] at eC
    rw [if_neg (fun e => cs (eq.mpr e))] at eR
    obtain ⟨h1, κ1, σ1, a1, a2, W1, a4, a5, a6, a7, a8⟩ := z_act J X
    have s20 : r_A σ1 20 = r_A σ 20 := a6 20 (by decide)
    have k7 : κ1 7 = κ 7 := a5 7 (by decide) (by decide)
    obtain ⟨h5, p1, p2, p3⟩ := pi10_0 (nI m - 100) (Ww7 W1)
    rw [k7] at p2
    have W5 := W_7 W1 p2 p3
    have k77 : (va_up κ1 7 (g_si (κ 7) 0 (nI m - 100))) 7 = g_si (κ 7) 0 (nI m - 100) := va_up_at _ _ _
    have ne : ∀ j, j ≠ 11 → upd (r_A σ 20) 11 (nI m - 100) j = r_A σ 20 j := fun j hj => pk_un hj
    obtain ⟨q1, q2, q3⟩ := z_actQ (σ2 := r_sa σ1 20 (upd (r_A σ 20) 11 (nI m - 100))) R J X hpz (fun a ha => (p3 a (by unfold f10; omega)).trans (a4 a ha)) W5 (fun k h7 h8 h10 hk => (va_up_of h7).trans (a5 k h8 hk))
      (by
        rw [va_up_of (by decide), z_rAn (by decide), ← s20]
        exact z_JP_fr a8 (fun i hi => va_up_of (by omega)) (fun _ _ => rfl) (fun _ _ => rfl) rfl)
      (fun k h20 _ h25 => (z_rAn h20).trans (a6 k h25)) (fun k _ h26 => a7 k h26) (fun j hj => by rw [z_rA, ne j (by omega)])
      (by
        rw [z_rA]
        refine ⟨by rw [pk_us]; omega, fun q hq => ?_, z_P_ext (fun q hq => ⟨ne _ (by omega), ne _ (by omega)⟩) hV.2.2⟩
        rw [ne (12 + 5 * q) (by omega), ne (14 + 5 * q) (by omega), ne (16 + 5 * q) (by omega)]
        exact hV.2.1 q hq)
      (by
        rw [z_rA, k77]
        refine ⟨by rw [z_si_I, pk_us], by rw [z_si_In (by decide), ne 10 (by decide)]; exact ht.2.1, ?_, fun q hq => ?_⟩
        · refine (z_si_In (by decide)).trans (ht.2.2.1.trans ?_)
          rw [show z_m (z_up (r_A σ 20)) n = z_m (z_up (upd (r_A σ 20) 11 (nI m - 100))) n from z_m_ext (fun q hq => by unfold z_up; rw [ne (15 + 5 * q) (by omega)])]
        · rw [z_si_A, ne (12 + 5 * q) (by omega), ne (13 + 5 * q) (by omega), ne (14 + 5 * q) (by omega), ne (16 + 5 * q) (by omega)]
          exact ht.2.2.2 q hq)
      (by rw [z_rA, ne 10 (by decide)]; exact X.2.2.2.2.2.2.2.2.1)
    have f2 : t_X12_set σ (nI m) = some (r_A σ 20 11 + 100, r_sa σ1 20 (upd (r_A σ 20) 11 (nI m - 100))) := by
      rw [eR, a2, Option.bind_some, z_ribbon (σ := σ1) (n := n) (by rw [s20]; exact hR), Option.bind_some, s20, show t_si 106 σ1 20 11 (nI m - 100) = some (r_sa σ1 20 (upd (r_A σ1 20) 11 (nI m - 100))) from t_si_in (j := 11) (by decide) (by decide), Option.bind_some, s20]
    have f3 := l_X12_set (b + 152) h5 σ (nI m) f2
    rw [q2] at f3
    refine ⟨_, h5, _, ?_, q1, f3, q3⟩
    rw [eC, a1, Option.bind_some, Wm5 W1, Option.bind_some, Wgt W1, Option.bind_some, p1, Option.bind_some]
/-- the reference goes back -/
theorem z_undoR {w : Nat → Int32} {u : Nat} (hu : u < 20) : ∀ (m k fu : Nat) (σ : r_S), k + m = 42 → m < fu → r_A σ 25 = w → r_I σ 26 = nI u → ∃ s, t_X12_undo_21 fu σ (nI k) = some (nI u, r_sa σ 20 s) ∧ (∀ j, j < 10 + k ∨ 52 ≤ j → s j = r_A σ 20 j) ∧ ∀ j, 10 + k ≤ j → j < 52 → s j = w (42 * u + (j - 10)) := by
  intro m
  induction m with
  | zero =>
    intro k fu σ hk hf hs h26
    obtain ⟨fu, rfl⟩ := Nat.exists_eq_succ_of_ne_zero (show fu ≠ 0 by omega)
    refine ⟨r_A σ 20, ?_, fun _ _ => rfl, fun j h1 h2 => by omega⟩
    rw [t_X12_undo_21, if_pos (show (42 : Int32) ≤ nI k from nI_le (a := 42) (by omega) (by omega))]
    try dsimp only
    rw [h26, z_rsa_eta]
  | succ m ih =>
    intro k fu σ hk hf hs h26
    obtain ⟨fu, rfl⟩ := Nat.exists_eq_succ_of_ne_zero (show fu ≠ 0 by omega)
    obtain ⟨s, e1, e2, e3⟩ := ih (k + 1) fu (r_sa σ 20 (upd (r_A σ 20) (10 + k) (w (42 * u + k)))) (by omega) (by omega) (by rw [z_rAn (by decide)]; exact hs) h26
    rw [z_rA] at e2
    have ei : (42 : Int32) * nI u + nI k = nI (42 * u + k) := by rw [show (42 : Int32) = nI 42 from rfl, pk_mul, nI_add]
    refine ⟨s, ?_, fun j hj => ?_, fun j h1 h2 => ?_⟩
    · rw [t_X12_undo_21, if_neg (show ¬ (42 : Int32) ≤ nI k from nI_ge (b := 42) (by omega) (by decide))]
      try dsimp only
      rw [h26, ei, t_ai_in (by omega) (by decide), Option.bind_some, z_ix10, t_si_in (by omega) (by decide), Option.bind_some, nI_1, hs, e1, z_rsa2]
    · rw [e2 j (by omega), pk_un (by omega)]
    · by_cases e : j = 10 + k
      · rw [e, e2 _ (by omega), pk_us]
        congr 1
        omega
      · exact e3 j (by omega) h2
theorem s_12 : q_st12 b (b + 152) (z_I b) := by
  intro z h I
  obtain ⟨c, κ, σ, W, R, J, V⟩ := z_view I
  have eH := z_no R
  obtain ⟨u, x, u1, u2, u3, u4, u5, u6⟩ := J.2.2.2.2.2.1
  by_cases u0 : u = 0
  · have e3 := l_X12_undo (b + 152) h σ (r := -1) (s' := σ) (by
      unfold t_X12_undo
      try dsimp only
      rw [u5, if_pos (by rw [u0]; rfl)])
    rw [eH] at e3
    refine ⟨-1, h, h, ?_, z_fs R, e3, I⟩
    unfold m_X11_undo
    rw [Wm6 W, Option.bind_some, gi2_2 (Ww8 W), Option.bind_some, u4, if_pos (by rw [u0]; rfl)]
  · obtain ⟨n', y1, y2⟩ := u6 u0
    rcases V with ⟨v1, v2, -⟩ | ⟨n, po, o, nc, X, hN, hpz⟩
    · have := y1.2.1
      rw [v2 0 (by decide)] at this
      exact absurd this (by decide)
    · have hR := X.2.2.2.2.2.1
      have hn := hR.1
      have hnn : n' = n := by
        have q1 := y1.2.2.1
        have q2 := hR.2.2.1
        have := y1.1
        exact (nI_eq (by omega) (by omega)).mp (q1.symm.trans q2)
      rw [hnn] at y2
      obtain ⟨z1, z2, z3⟩ := y2 (u - 1) (by omega)
      rw [show (x + 20 - u + (u - 1)) % 20 = (x + 19) % 20 by omega] at z1
      have hx' : (x + 19) % 20 < 20 := Nat.mod_lt _ (by decide)
      -- the class
      obtain ⟨h2, p1, p2, p3⟩ := pi2_1 (nI ((x + 19) % 20)) (Ww8 W)
      have W2 := W_8 W p2 rfl p3
      have k8 : (va_up κ 8 (g_si (κ 8) 1 (nI ((x + 19) % 20)))) 8 = g_si (κ 8) 1 (nI ((x + 19) % 20)) := va_up_at _ _ _
      have ea : q_ar h2 (b + 22) 6 (nI ((x + 19) % 20)) = some (some (b + 23 + 5 * ((x + 19) % 20))) := by
        unfold q_ar
        rw [Wwr W2]
        refine (if_pos ⟨rfl, show q_in (nI ((x + 19) % 20)) 20 from vp_in_nI hx' (by decide)⟩).trans ?_
        rw [nI_clamp (by omega)]
        show some (if (x + 19) % 20 < 20 then some (b + 23 + 5 * ((x + 19) % 20)) else none) = _
        rw [if_pos hx']
      have G := Wwt W2 _ hx'
      rw [va_up_of (show 20 + (x + 19) % 20 ≠ 8 by omega)] at G
      obtain ⟨h5, t', c1, c2, c3, c4⟩ := z_copy (Ww7 W2) G (by omega)
      have W5 := W_7 W2 c2 c3
      have k85 : (va_up (va_up κ 8 (g_si (κ 8) 1 (nI ((x + 19) % 20)))) 7 t') 8 = g_si (κ 8) 1 (nI ((x + 19) % 20)) := (va_up_of (by decide)).trans (va_up_at _ _ _)
      have G8 := Ww8 W5
      rw [k85] at G8
      obtain ⟨h7, r1, r2, r3⟩ := pi2_2 (nI (u - 1)) G8
      have W7 := W_8 W5 r2 (by rw [k85]; rfl) r3
      -- the reference
      obtain ⟨s, d1, d2, d3⟩ := z_undoR (w := r_A σ 25) (u := u - 1) (by omega) 42 0 q_fu (r_si σ 26 (nI (u - 1))) (by omega) (by decide) rfl (z_rsiI _ _ _)
      have es : ∀ j, 10 ≤ j → j < 52 → s j = z_ws (r_A σ 20) (r_A σ 25) (u - 1) j := fun j h1 h2 => by
        unfold z_ws
        rw [if_pos ⟨h1, h2⟩]
        exact d3 j (by omega) h2
      have k7 : (va_up (va_up (va_up κ 8 (g_si (κ 8) 1 (nI ((x + 19) % 20)))) 7 t') 8 (g_si (g_si (κ 8) 1 (nI ((x + 19) % 20))) 2 (nI (u - 1)))) 7 = t' := (va_up_of (by decide)).trans (va_up_at _ _ _)
      obtain ⟨q1, q2, q3⟩ := z_actQ (σ2 := r_sa (r_si σ 26 (nI (u - 1))) 20 s) R J X hpz (fun a ha => (r3 a (by unfold f2; omega)).trans ((c3 a (by unfold f10; omega)).trans (p3 a (by unfold f2; omega)))) W7 (fun k h7 h8 h10 hk => (va_up_of h8).trans ((va_up_of h7).trans (va_up_of h8)))
        (by
          rw [va_up_at, z_rAn (by decide)]
          refine ⟨u - 1, (x + 19) % 20, by omega, hx', ?_, ?_, z_rsiI σ 26 (nI (u - 1)), fun _ => ⟨n, hR, fun i hi => ?_⟩⟩
          · rw [z_si_In (by decide), z_si_I]
          · rw [z_si_I]
          · obtain ⟨w1, w2, w3⟩ := y2 i (by omega)
            rw [show (x + 20 - u + i) % 20 = ((x + 19) % 20 + 20 - (u - 1) + i) % 20 by omega] at w1
            refine ⟨?_, w2, w3⟩
            show z_t ((va_up (va_up (va_up κ 8 (g_si (κ 8) 1 (nI ((x + 19) % 20)))) 7 t') 8 (g_si (g_si (κ 8) 1 (nI ((x + 19) % 20))) 2 (nI (u - 1)))) (20 + ((x + 19) % 20 + 20 - (u - 1) + i) % 20)) _ n
            rw [va_up_of (by omega), va_up_of (by omega), va_up_of (by omega)]
            exact w1)
        (fun k h20 _ _ => z_rAn h20) (fun k _ h26 => z_rsiIn (σ := σ) h26) (fun j hj => by rw [z_rA]; exact d2 j (by omega))
        (by rw [z_rA]; exact z_Vx hn (fun j h1 h2 => es j (by omega) h2) z2)
        (by rw [z_rA, k7]; exact z_tx hn es (z_teq_t hn c4 z1))
        (by rw [z_rA, es 10 (by omega) (by omega)]; exact z3)
      have one : nI u - 1 = nI (u - 1) := pk_sub (b := 1) (by omega)
      have f2 : t_X12_undo σ = some (nI (u - 1), r_sa (r_si σ 26 (nI (u - 1))) 20 s) := by
        unfold t_X12_undo
        try dsimp only
        rw [u5, if_neg (nI_ne0 (by omega) (by omega)), one]
        exact d1
      have f3 := l_X12_undo (b + 152) h7 σ f2
      rw [q2] at f3
      refine ⟨_, h7, _, ?_, q1, f3, q3⟩
      have e20 : (nI x + 20) - 1 = nI (x + 19) := by
        rw [show (20 : Int32) = nI 20 from rfl, nI_add, show (1 : Int32) = nI 1 from rfl, pk_sub (by omega)]
        congr 1
      unfold m_X11_undo
      rw [Wm6 W, Option.bind_some, gi2_2 (Ww8 W), Option.bind_some, u4, if_neg (nI_ne0 (by omega) (by omega)), Option.bind_some, Wm5 W, Option.bind_some, Wgt W, Option.bind_some, ca2 (Ww8 W)]
      unfold m_X2_giveBack
      rw [gi2_1 (Ww8 W), Option.bind_some, u3, e20, z_m20 (by omega), p1, Option.bind_some, show q_gn h2 (b + 21) 2 0 = some (b + 22) from gp2_0 (Ww8 W2) (Wp8_0 W2), Option.bind_some, gi2_1 p2, Option.bind_some, z_si_I, ea, Option.bind_some, Option.bind_some, ca10 (Ww7 W2), c1, Option.bind_some, gi2_2 G8, Option.bind_some, z_si_In (by decide), u4, one, r1, Option.bind_some, Option.bind_some, Wm6 W7, Option.bind_some, gi2_2 r2, Option.bind_some, z_si_I]
end UN
