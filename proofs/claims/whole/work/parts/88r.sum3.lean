/-! ===== L3: SUMS in step, the loop ===== -/
def z_sA (A : Nat) (S : List Bool) : List Bool := if A = 0 then S else false :: S
section SW
variable {f : Nat → Int32} {N r c0 : Nat}
theorem z_opt {j : g_S} {σ : r_S} {c m O : Nat} {K V : Nat → Nat} {S : List Bool} (C : z_cj j σ r c m K V) (T : z_tt K c0 c (false :: z_sA O S)) (hO : O = 0 ∨ 5 ≤ O ∧ O ≤ 9) (hc : c + (if O = 0 then 0 else 1) ≤ 400) :
    ∃ j' σ' c' K' V', (if nI O = 0 then some j else t_X7_write j (nI O) 0) = some j' ∧ (if O = 0 then some σ else t_X12_puts σ (nI (z_cv O)) 0) = some σ' ∧ z_cj j' σ' r c' m K' V' ∧ z_tt K' c0 c' (false :: S) ∧ c' = c + (if O = 0 then 0 else 1) ∧ z_f1 r σ σ' ∧ z_f2 j j' ∧ (∀ q, r_I σ' q = r_I σ q) ∧ ∀ q, q < c → K' q = K q ∧ V' q = V q := by
  by_cases e : O = 0
  · refine ⟨j, σ, c, K, V, ?_, if_pos e, C, ?_, ?_, z_f1_refl _ _, z_f2_refl _, fun _ => rfl, fun _ _ => ⟨rfl, rfl⟩⟩
    · rw [if_pos (show nI O = 0 by rw [e]; rfl)]
    · unfold z_sA at T
      rw [if_pos e] at T
      exact T
    · rw [if_pos e]; rfl
  · rw [if_neg e] at hc
    obtain ⟨j', σ', a1, a2, a3, a4, a5, a6, a7⟩ := z_put C (k := O) (v := 0) (by omega) ⟨by omega, by omega, fun h => by omega⟩
    refine ⟨j', σ', c + 1, z_un K c O, z_un V c 0, ?_, ?_, a3, z_tt_put T ?_, by rw [if_neg e], a4, a5, a6, fun q hq => ⟨if_neg (by omega), if_neg (by omega)⟩⟩
    · rw [if_neg (nI_ne0 (by omega) (by omega))]
      exact a1
    · rw [if_neg e]
      exact a2
    · unfold z_sA z_t1
      rw [if_neg e, if_neg (by omega), if_neg (by omega), if_neg (by omega), if_pos (by omega)]
theorem z_sumL {w : Nat} {S0 : List Bool} : ∀ (u A B x3 fu ft fs k p i c m : Nat) (j d : g_S) (σ : r_S) (K V : Nat → Nat), m + u = 60 → u < fu → u < ft → u < fs → x3 ≤ m → (A = 0 ∨ A = 5 ∨ A = 6) → (B = 0 ∨ 7 ≤ B ∧ B ≤ 9) → z_y d σ f N k p i → z_cj j σ r c m K V → c + (if A = 0 then 0 else 1) + (if B = 0 then 0 else 1) + w ≤ k → z_tt K c0 c (z_sA B (z_sA A S0)) → (z_sA B (z_sA A S0)).length ≤ m →
    ∃ j' d' rr σ', t_X7_readSum_6 fu j d (nI A) (nI B) (nI x3) = some (j', d') ∧ z_Ev A B ft fs σ = some (rr, σ') ∧ z_f1 r σ σ' ∧ z_f2 j j' ∧ g_P d' = g_P d ∧
      ((rr = 1 ∧ ∃ k' p' i' c' m' K' V', z_y d' σ' f N k' p' i' ∧ z_cj j' σ' r c' m' K' V' ∧ c' + w ≤ k' ∧ z_tt K' c0 c' (false :: S0) ∧ (false :: S0).length ≤ m' ∧ c < c' ∧ m < m' ∧ ∀ q, q < c → K' q = K q ∧ V' q = V q) ∨
       (rr = 0 ∧ ∃ e c', z_dd d' e ∧ r_I σ' 9 = e ∧ g_I j' 2 = nI c' ∧ c' ≤ 400)) := by
  intro u
  induction u with
  | zero =>
    intro A B x3 fu ft fs k p i c m j d σ K V hm hfu hft hfs hx hA hB Y C hc T hl
    obtain ⟨fu, rfl⟩ := Nat.exists_eq_succ_of_ne_zero (show fu ≠ 0 by omega)
    rcases z_valS Y C (by omega) with ⟨j1, d1, σ1, p1, i1, kk, v, a1, a2, a3, a4, a5, a6, a7, a8, a9⟩ | ⟨d1, σ1, e, a1, a2, a3, a4, a5, a6⟩
    · omega
    · refine ⟨j, d1, 0, σ1, ?_, ?_, a5, z_f2_refl _, a6, Or.inr ⟨rfl, e, c, a3, a4, C.2.2.2.1, C.2.2.1⟩⟩
      · rw [t_X7_readSum_6, if_neg (show ¬ (60 : Int32) < nI x3 from nI_nlt (a := 60) (by omega) (by decide)), a1, Option.bind_some]
        exact if_pos rfl
      · unfold z_Ev
        rw [a2, Option.bind_some, if_pos (show ((0 : Int32), σ1).1 = 0 from rfl), Option.bind_some]
        exact if_pos rfl
  | succ u ih =>
    intro A B x3 fu ft fs k p i c m j d σ K V hm hfu hft hfs hx hA hB Y C hc T hl
    obtain ⟨fu, rfl⟩ := Nat.exists_eq_succ_of_ne_zero (show fu ≠ 0 by omega)
    obtain ⟨ft, rfl⟩ := Nat.exists_eq_succ_of_ne_zero (show ft ≠ 0 by omega)
    obtain ⟨fs, rfl⟩ := Nat.exists_eq_succ_of_ne_zero (show fs ≠ 0 by omega)
    rcases z_valS Y C (by omega) with ⟨j1, d1, σ1, p1, i1, kk, v, a1, a2, a3, a4, a5, a6, a7, a8, a9⟩ | ⟨d1, σ1, e, a1, a2, a3, a4, a5, a6⟩
    · -- the VALUE is good
      have hk400 : k + 1 ≤ 400 := by
        obtain ⟨T', mm, q1, q2, q3, q4, -⟩ := a3.2.2.2.2.1
        omega
      have T1 : z_tt (z_un K c kk) c0 (c + 1) (false :: z_sA B (z_sA A S0)) := z_tt_put T (by
        unfold z_t1
        rw [if_pos a5, if_pos (by omega)])
      obtain ⟨j2, σ2, c2, K2, V2, b1, b2, b3, b4, b5, b6, b7, b8, b9⟩ := z_opt a4 T1 (by omega) (by omega)
      have Y2 : z_y d1 σ2 f N (k + 1) p1 i1 := z_y_f1 a3 b6 (b8 8) (b8 9)
      have kp : ∀ q, q < c → K2 q = K q ∧ V2 q = V q := fun q hq => by
        obtain ⟨x1, x2⟩ := b9 q (by omega)
        rw [x1, x2]
        exact ⟨if_neg (by omega), if_neg (by omega)⟩
      have k6 := (z_rr_k Y2.2.2.2.2.1).1
      have kl := z_k1_lt f N p1
      have F2 := z_f1_trans a7 b6
      have G2 := z_f2_trans a8 b7
      have eC : t_X7_readSum_6 (fu + 1) j d (nI A) (nI B) (nI x3) = t_X7_readSum_29 (t_X7_readSum_6 fu) j2 d1 (nI A) (nI x3) := by
        rw [t_X7_readSum_6, if_neg (show ¬ (60 : Int32) < nI x3 from nI_nlt (a := 60) (by omega) (by decide)), a1, Option.bind_some]
        try dsimp only
        rw [if_neg (show ¬ (1 : Int32) = 0 by decide)]
        by_cases eB : nI B = 0
        · rw [if_pos eB] at b1 ⊢
          injection b1 with b1
          rw [b1]
        · rw [if_neg eB] at b1 ⊢
          rw [b1, Option.bind_some]
      have eR : z_Ev A B (ft + 1) (fs + 1) σ = (t_X12_term_9 (ft + 1) σ2).bind (z_G A (fs + 1)) := by
        unfold z_Ev
        rw [a2, Option.bind_some, if_neg (show ¬ ((1 : Int32), σ1).1 = 0 from (by decide : ¬ (1 : Int32) = 0))]
        by_cases eB : B = 0
        · rw [if_pos eB] at b2 ⊢
          injection b2 with b2
          rw [b2]
        · rw [if_neg eB] at b2 ⊢
          rw [b2, Option.bind_some]
      have har : z_ar (z_k1 f N p1) ≤ 9 := by
        unfold z_ar
        repeat' split
        all_goals decide
      have hne : z_ar (z_k1 f N p1) ≠ 0 → z_k1 f N p1 < 48 := fun h => by
        unfold z_ar at h
        by_cases e1 : z_k1 f N p1 < 48
        · exact e1
        · rw [if_neg (by omega), if_neg (by omega), if_neg (by omega), if_neg (by omega), if_neg (by omega)] at h
          exact absurd rfl h
      have h5 : z_ar (z_k1 f N p1) ≠ 0 → 5 ≤ z_ar (z_k1 f N p1) := fun h => by
        unfold z_ar at h ⊢
        revert h
        repeat' split
        all_goals (intro h; first | decide | exact absurd rfl h)
      rw [eC, eR]
      unfold t_X7_readSum_29
      try dsimp only
      rw [k6, z_arith _ kl, Option.bind_some, z_term9 Y2]
      generalize hop : z_ar (z_k1 f N p1) = op at *
      by_cases c7 : 7 ≤ op
      · -- it binds
        obtain ⟨-, -, d3, n1, n2, n3⟩ := z_pass1 Y2 rfl (Or.inl (hne (by omega)))
        obtain ⟨j', d', rr, σ', x1, x2, x3', x4, x5, x6⟩ := ih A op (x3 + 1) fu ft (fs + 1) (k + 1 + 1) _ _ c2 (m + 1) j2 d3 (z_nx σ2 (p1 + 1)) K2 V2 (by omega) (by omega) (by omega) (by omega) (by omega) hA (Or.inr ⟨c7, har⟩) n2 (z_cj_so b3 (z_so_nx _ _)) (by rw [if_neg (show ¬ op = 0 by omega)]; omega) (by unfold z_sA at b4 ⊢; rw [if_neg (show ¬ op = 0 by omega)]; exact b4) (by
          unfold z_sA at hl ⊢
          rw [if_neg (show ¬ op = 0 by omega), List.length_cons]
          by_cases e : B = 0
          · rw [if_pos e] at hl; omega
          · rw [if_neg e, List.length_cons] at hl; omega)
        refine ⟨j', d', rr, σ', ?_, ?_, z_f1_trans F2 (z_f1_trans (z_f1_so r (z_so_nx _ _)) x3'), z_f2_trans G2 x4, x5.trans (n3.trans a9), ?_⟩
        · rw [if_neg (show ¬ nI op < (7 : Int32) from nI_nlt (b := 7) c7 (by omega))]
          unfold t_X7_readSum_54
          rw [if_neg (nI_ne0 (by omega) (by omega))]
          unfold t_X7_readSum_72
          rw [if_neg (nI_ne0 (by omega) (by omega)), n1, Option.bind_some, nI_1]
          exact x1
        · rw [if_pos c7, ← x2]
          unfold z_Ev
          have ho : ¬ op = 0 := by omega
          simp only [if_neg ho]
        · rcases x6 with ⟨y1, k', p', i', c', m', K', V', y2, y3, y4, y5, y6, y7, y9, y8⟩ | y
          · exact Or.inl ⟨y1, k', p', i', c', m', K', V', y2, y3, y4, y5, y6, by rw [b5] at y7; omega, by omega, fun q hq => ⟨(y8 q (by omega)).1.trans (kp q hq).1, (y8 q (by omega)).2.trans (kp q hq).2⟩⟩
          · exact Or.inr y
      · -- the term is at its end
        obtain ⟨j4, σ4, c4, K4, V4, e1, e2, e3, e4, e5, e6, e7, e8, e9⟩ := z_opt (z_cj_so b3 (z_so_nx σ2 p1)) b4 (by omega) (by omega)
        have Y4 : z_y d1 σ4 f N (k + 1) p1 p1 := z_y_f1 (z_y_nx Y2) e6 (e8 8) (e8 9)
        have F4 := z_f1_trans F2 (z_f1_trans (z_f1_so r (z_so_nx σ2 p1)) e6)
        have G4 := z_f2_trans G2 e7
        have kp4 : ∀ q, q < c → K4 q = K q ∧ V4 q = V q := fun q hq => ⟨(e9 q (by omega)).1.trans (kp q hq).1, (e9 q (by omega)).2.trans (kp q hq).2⟩
        have eG : (some ((1 : Int32), z_nx σ2 p1)).bind (z_G A (fs + 1)) = t_X12_sum_9 (fs + 1) σ4 := by
          rw [Option.bind_some]
          unfold z_G
          rw [if_neg (show ¬ ((1 : Int32), z_nx σ2 p1).1 = 0 from (by decide : ¬ (1 : Int32) = 0))]
          by_cases eA : A = 0
          · rw [if_pos eA] at e2 ⊢
            injection e2 with e2
            rw [← e2]
          · rw [if_neg eA] at e2 ⊢
            rw [e2, Option.bind_some]
        have eC2 : (if nI op < (7 : Int32) then t_X7_readSum_54 (t_X7_readSum_6 fu) j2 d1 (nI A) (nI x3) (nI op) 0 else t_X7_readSum_54 (t_X7_readSum_6 fu) j2 d1 (nI A) (nI x3) (nI op) (nI op)) = t_X7_readSum_72 (t_X7_readSum_6 fu) j4 d1 (nI op) 0 (nI x3) (nI op) := by
          rw [if_pos (show nI op < (7 : Int32) from nI_lt (b := 7) (by omega) (by decide))]
          unfold t_X7_readSum_54
          rw [if_pos rfl]
          by_cases eA : nI A = 0
          · rw [if_pos eA] at e1 ⊢
            injection e1 with e1
            rw [← e1]
            rfl
          · rw [if_neg eA] at e1 ⊢
            rw [e1, Option.bind_some]
            rfl
        rw [if_neg c7, eG, eC2, z_sum9 Y4 fs (by omega), hop]
        unfold t_X7_readSum_72
        by_cases o0 : op = 0
        · rw [if_pos (show nI op = 0 by rw [o0]; rfl), if_pos o0]
          exact ⟨j4, d1, 1, _, rfl, rfl, z_f1_trans F4 (z_f1_so r (z_so_nx _ _)), G4, a9, Or.inl ⟨rfl, k + 1, p1, p1, c4, m + 1, K4, V4, z_y_nx Y4, z_cj_so e3 (z_so_nx _ _), by rw [e5, b5]; omega, e4, by
            rw [List.length_cons]
            unfold z_sA at hl
            revert hl
            repeat' split
            all_goals (intro hl; (try simp only [List.length_cons] at hl); omega), by omega, by omega, kp4⟩⟩
        · obtain ⟨-, -, d3, n1, n2, n3⟩ := z_pass1 Y4 rfl (Or.inl (hne o0))
          obtain ⟨j', d', rr, σ', x1, x2, x3', x4, x5, x6⟩ := ih op 0 (x3 + 1) fu q_fu fs (k + 1 + 1) _ _ c4 (m + 1) j4 d3 (z_nx σ4 (p1 + 1)) K4 V4 (by omega) (by omega) (by show u < 5000; omega) (by omega) (by omega) (by have := h5 o0; omega) (Or.inl rfl) n2 (z_cj_so e3 (z_so_nx _ _)) (by rw [if_neg o0, if_pos rfl, e5, b5]; omega) (by unfold z_sA; rw [if_pos rfl, if_neg o0]; exact e4) (by
            unfold z_sA at hl ⊢
            rw [if_pos rfl, if_neg o0, List.length_cons]
            revert hl
            repeat' split
            all_goals (intro hl; (try simp only [List.length_cons] at hl); omega))
          refine ⟨j', d', rr, σ', ?_, ?_, z_f1_trans F4 (z_f1_trans (z_f1_so r (z_so_nx _ _)) x3'), z_f2_trans G4 x4, x5.trans (n3.trans a9), ?_⟩
          · rw [if_neg (nI_ne0 (by omega) (by omega)), n1, Option.bind_some, nI_1]
            exact x1
          · rw [if_neg o0]
            exact x2
          · rcases x6 with ⟨y1, k', p', i', c', m', K', V', y2, y3, y4, y5, y6, y7, y9, y8⟩ | y
            · exact Or.inl ⟨y1, k', p', i', c', m', K', V', y2, y3, y4, y5, y6, by omega, by omega, fun q hq => ⟨(y8 q (by omega)).1.trans (kp4 q hq).1, (y8 q (by omega)).2.trans (kp4 q hq).2⟩⟩
            · exact Or.inr y
    · refine ⟨j, d1, 0, σ1, ?_, ?_, a5, z_f2_refl _, a6, Or.inr ⟨rfl, e, c, a3, a4, C.2.2.2.1, C.2.2.1⟩⟩
      · rw [t_X7_readSum_6, if_neg (show ¬ (60 : Int32) < nI x3 from nI_nlt (a := 60) (by omega) (by decide)), a1, Option.bind_some]
        exact if_pos rfl
      · unfold z_Ev
        rw [a2, Option.bind_some, if_pos (show ((0 : Int32), σ1).1 = 0 from rfl), Option.bind_some]
        exact if_pos rfl
end SW
