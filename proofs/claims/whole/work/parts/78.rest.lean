/-! ===== L3: RESTS ===== -/
theorem z_qsi {h : q_H} {a N k : Nat} {f : Nat → Int32} {v : Int32} (hN : N < 2 ^ 31) (hk : k < N) (e : h a = .inl (1, N, .inl f)) : q_si h a 1 (nI k) v = some (va_up h a (.inl (1, N, .inl (upd f k v)))) := by
  unfold q_si
  rw [e, show upd f k v = upd f (nI k).toNatClampNeg v by rw [nI_clamp (by omega)]]
  exact if_pos ⟨rfl, (show q_in (nI k) N from vp_in_nI hk hN)⟩
theorem z_qai {h : q_H} {a N k : Nat} {f : Nat → Int32} (hN : N < 2 ^ 31) (hk : k < N) (e : h a = .inl (1, N, .inl f)) : q_ai h a 1 (nI k) = some (f k) := by
  unfold q_ai
  rw [e, show f k = f (nI k).toNatClampNeg by rw [nI_clamp (by omega)]]
  exact if_pos ⟨rfl, (show q_in (nI k) N from vp_in_nI hk hN)⟩
theorem z_d4 {k : Nat} (hk : k < 16) : nI k / 4 = nI (k / 4) := pk_div (d := 4) (by omega) (by decide) (by decide)
theorem z_m4 {k : Nat} (hk : k < 16) : q_rmi (nI k) 4 = nI (k % 4) := pk_rem (d := 4) (by omega) (by decide) (by decide)
/-- how far towards one's side, and wind: on both sides -/
theorem z_has {b n p : Nat} {κ : Nat → g_S} {σ : r_S} {h : q_H} (W : z_W b κ h) (hn : n ≤ 8) (hp : p < n) (ht : z_t (κ 11) (r_A σ 20) n) (hside : nb (r_A σ 20 (12 + 5 * p)) 1) : ∃ v, q_gn h (b + 131) 10 3 = some (b + 132) ∧ q_ai h (b + 132) 1 (nI p) = some (r_A σ 20 (12 + 5 * p)) ∧ m_X10_towards h (b + 131) (r_A σ 20 (12 + 5 * p)) = some v ∧ t_X12_towards σ (nI p) = some v ∧ q_gn h (b + 131) 10 5 = some (b + 134) ∧ q_ai h (b + 134) 1 (nI p) = some (r_A σ 20 (14 + 5 * p)) := by
  obtain ⟨v, t1, t2⟩ := z_towards W hn hp ht hside
  refine ⟨v, gn10_3 (Ww11 W), ?_, t1, t2, gn10_5 (Ww11 W), ?_⟩
  · rw [show b + 132 = b + 131 + 1 from rfl, ai10_3 (Ww11 W), t_ai_in (by omega) (by decide), (ht.2.2.2 p hp).1]
  · rw [show b + 134 = b + 131 + 3 from rfl, ai10_5 (Ww11 W), t_ai_in (by omega) (by decide), (ht.2.2.2 p hp).2.2.1]
theorem z_restL {b n po c : Nat} {o : g_S} {κ0 : Nat → g_S} {σ0 : r_S} {h0 : q_H} (X : z_X b n po c o κ0 σ0 h0) {N u v : Nat} (hN : N ≤ 20) (hu : u < n) (hv : v < n) (huv : u ≠ v) (wh : Int32) : ∀ (m k fu fu' : Nat) (κ : Nat → g_S) (σ : r_S) (h : q_H), k + m = 16 → m < fu → m < fu' → z_q b κ0 κ h0 h → z_k σ0 σ → r_A σ 20 = r_A σ0 20 → r_A σ 23 = r_A σ0 23 → r_I σ 21 = r_I σ0 21 → (∀ j, j < k → g_A (κ 15) 0 j = r_A σ 28 (2 * j) ∧ g_A (κ 15) 1 j = r_A σ 28 (2 * j + 1)) →
    ∃ h' κ' σ', m_X8_steadyEfforts_3 fu h (b + 130) (nI u) (nI v) (nI N) wh (nI k) = m_X8_steadyEfforts_132 q_fu h' (b + 130) wh 0 (-1) 15 ∧ z_q b κ0 κ' h0 h' ∧ t_X12_rests_55 fu' σ (nI u) (nI v) (nI N) wh (nI k) = t_X12_rests_87 q_fu σ' wh 0 (-1) 15 ∧ z_k σ0 σ' ∧ r_A σ' 20 = r_A σ0 20 ∧ r_A σ' 23 = r_A σ0 23 ∧ r_I σ' 21 = r_I σ0 21 ∧ (∀ j, j < 16 → g_A (κ' 15) 0 j = r_A σ' 28 (2 * j) ∧ g_A (κ' 15) 1 j = r_A σ' 28 (2 * j + 1)) := by
  have hn : n ≤ 8 := X.2.2.2.2.2.1.1
  intro m
  induction m with
  | zero =>
    intro k fu fu' κ σ h hk hf hf' Q K h20 h23 h21 hrel
    obtain ⟨fu, rfl⟩ := Nat.exists_eq_succ_of_ne_zero (show fu ≠ 0 by omega)
    obtain ⟨fu', rfl⟩ := Nat.exists_eq_succ_of_ne_zero (show fu' ≠ 0 by omega)
    refine ⟨h, κ, σ, ?_, Q, ?_, K, h20, h23, h21, fun j hj => hrel j (by omega)⟩
    · rw [m_X8_steadyEfforts_3, if_pos (show (16 : Int32) ≤ nI k from nI_le (a := 16) (by omega) (by omega))]
    · rw [t_X12_rests_55, if_pos (show (16 : Int32) ≤ nI k from nI_le (a := 16) (by omega) (by omega))]
  | succ m ih =>
    intro k fu fu' κ σ h hk hf hf' Q K h20 h23 h21 hrel
    obtain ⟨fu, rfl⟩ := Nat.exists_eq_succ_of_ne_zero (show fu ≠ 0 by omega)
    obtain ⟨fu', rfl⟩ := Nat.exists_eq_succ_of_ne_zero (show fu' ≠ 0 by omega)
    obtain ⟨h1, κ1, s1, R1, s3⟩ := z_run_start X Q K h20 h23 h21
    obtain ⟨h2, κ2, f1, R2, f3⟩ := z_fix (p := u) (e := k / 4) R1 (by omega) (by omega)
    obtain ⟨h3, κ3, f1', R3, f3'⟩ := z_fix (p := v) (e := k % 4) R2 (by omega) (by omega)
    rw [z_rA] at R3
    obtain ⟨h4, κ4, σ4, g1, R4, g3, g4, g5, g6, g7, g8, g9⟩ := z_run_go X R3 (show N ≤ 200 by omega)
    have W4 := R4.1.1
    have e15 : κ4 15 = κ 15 := (g6 15 (by decide) (by decide)).trans ((f3' 15 (by decide)).trans ((f3 15 (by decide)).trans (s3 15 (by decide) (by decide))))
    have e23 : r_A σ4 23 = upd (upd (r_A σ 23) u (nI (k / 4))) v (nI (k % 4)) := (g7.2.1 23 (by decide) (by decide)).trans (z_rA _ _ _)
    have e28 : r_A σ4 28 = r_A σ 28 := (g7.2.1 28 (by decide) (by decide)).trans ((z_rAn (by decide)).trans (z_rAn (by decide)))
    have back : upd (upd (r_A σ4 23) u (-1)) v (-1) = r_A σ0 23 := by
      funext q
      have hpl := X.2.2.2.2.2.2.2.2.2.2.2
      by_cases c1 : q = v
      · rw [c1, pk_us, hpl v (by omega)]
      · rw [pk_un c1]
        by_cases c2 : q = u
        · rw [c2, pk_us, hpl u (by omega)]
        · rw [pk_un c2, e23, pk_un c1, pk_un c2, h23]
    -- what they have
    obtain ⟨vu, a1, a2, a3, a4, a5, a6⟩ := z_has (σ := r_sa σ4 23 (r_A σ0 23)) W4 hn hu (by rw [z_rAn (by decide)]; exact R4.2.2.1) (by rw [z_rAn (by decide)]; exact (R4.2.2.2.1.2.1 u hu).1)
    have c0 : h4 (b + 150) = .inl (1, 16, .inl (g_A (κ 15) 0)) := by rw [Ww15 W4, e15]
    have c1 : h4 (b + 151) = .inl (1, 16, .inl (g_A (κ 15) 1)) := by rw [Ww16 W4, e15]
    have W5 : z_W b (va_up κ4 15 (g_sa (κ 15) 0 (upd (g_A (κ 15) 0) k (vu + r_A σ4 20 (14 + 5 * u))))) (va_up h4 (b + 150) (.inl (1, 16, .inl (upd (g_A (κ 15) 0) k (vu + r_A σ4 20 (14 + 5 * u)))))) := W_15 W4 (by rw [va_up_at, z_sa_at]) (by rw [va_up_of (by omega), c1, z_sa_of (by decide)]) (fun a ha => va_up_of (by omega))
    have e5 : va_up κ4 15 (g_sa (κ 15) 0 (upd (g_A (κ 15) 0) k (vu + r_A σ4 20 (14 + 5 * u)))) 11 = κ4 11 := va_up_of (by decide)
    obtain ⟨vv, b1, b2, b3, b4, b5, b6⟩ := z_has (σ := r_sa (r_sa σ4 23 (r_A σ0 23)) 28 (upd (r_A σ 28) (2 * k) (vu + r_A σ4 20 (14 + 5 * u)))) W5 hn hv (by rw [e5, z_rAn (by decide), z_rAn (by decide)]; exact R4.2.2.1) (by rw [z_rAn (by decide), z_rAn (by decide)]; exact (R4.2.2.2.1.2.1 v hv).1)
    rw [z_rAn (show 20 ≠ 23 by decide)] at a2 a3 a6
    rw [z_rAn (show 20 ≠ 28 by decide), z_rAn (show 20 ≠ 23 by decide)] at b2 b3 b6
    have W6 : z_W b (va_up (va_up κ4 15 (g_sa (κ 15) 0 (upd (g_A (κ 15) 0) k (vu + r_A σ4 20 (14 + 5 * u))))) 15 (g_sa (g_sa (κ 15) 0 (upd (g_A (κ 15) 0) k (vu + r_A σ4 20 (14 + 5 * u)))) 1 (upd (g_A (κ 15) 1) k (vv + r_A σ4 20 (14 + 5 * v))))) (va_up (va_up h4 (b + 150) (.inl (1, 16, .inl (upd (g_A (κ 15) 0) k (vu + r_A σ4 20 (14 + 5 * u)))))) (b + 151) (.inl (1, 16, .inl (upd (g_A (κ 15) 1) k (vv + r_A σ4 20 (14 + 5 * v)))))) := W_15 W5 (by rw [va_up_of (by omega), va_up_at, z_sa_of (by decide), z_sa_at]) (by rw [va_up_at, z_sa_at]) (fun a ha => va_up_of (by omega))
    have K5 : z_k σ0 (r_sa (r_sa (r_sa σ4 23 (r_A σ0 23)) 28 (upd (r_A σ 28) (2 * k) (vu + r_A σ4 20 (14 + 5 * u)))) 28 (upd (upd (r_A σ 28) (2 * k) (vu + r_A σ4 20 (14 + 5 * u))) (2 * k + 1) (vv + r_A σ4 20 (14 + 5 * v)))) := ⟨R4.2.1.1, fun q x1 x2 x3 => (z_rAn (by omega)).trans ((z_rAn (by omega)).trans ((z_rAn x2).trans (R4.2.1.2.1 q x1 x2 x3))), fun j hj => by rw [z_rAn (by decide), z_rAn (by decide), z_rAn (by decide)]; exact R4.2.1.2.2.1 j hj, fun j hj => by rw [z_rAn (by decide), z_rAn (by decide), z_rAn (by decide)]; exact R4.2.1.2.2.2 j hj⟩
    obtain ⟨l1, l2⟩ := z_lays K5
    have i2 : (2 : Int32) * nI k = nI (2 * k) := pk_mul 2 k
    have eF : t_X12_fillsRest σ (nI u) (nI v) (nI k) (nI N) = some (r_sa (r_sa (r_sa (r_sa σ4 23 (r_A σ0 23)) 28 (upd (r_A σ 28) (2 * k) (vu + r_A σ4 20 (14 + 5 * u)))) 28 (upd (upd (r_A σ 28) (2 * k) (vu + r_A σ4 20 (14 + 5 * u))) (2 * k + 1) (vv + r_A σ4 20 (14 + 5 * v)))) 20 (r_A σ0 20)) := by
      unfold t_X12_fillsRest
      rw [z_d4 (by omega), z_m4 (by omega), t_si_in (by omega) (by decide), Option.bind_some, t_si_in (by omega) (by decide), Option.bind_some, z_rA, g3]
      rw [Option.bind_some, t_si_in (by omega) (by decide), Option.bind_some, t_si_in (by omega) (by decide), Option.bind_some, z_rA, z_raa, back, a4, Option.bind_some, z_windOf (by omega), Option.bind_some, i2, t_si_in (by omega) (by decide), Option.bind_some, z_rAn (show 20 ≠ 23 by decide), z_rAn (show 28 ≠ 23 by decide), e28, b4, Option.bind_some, z_windOf (by omega), Option.bind_some, nI_1, t_si_in (by omega) (by decide), Option.bind_some, z_rA, z_rAn (show 20 ≠ 28 by decide), z_rAn (show 20 ≠ 23 by decide), l1]
      rfl
    obtain ⟨h', κ', σ', q1, q2, q3, q4⟩ := ih (k + 1) fu fu' _ _ _ (by omega) (by omega) (by omega) ⟨W6, fun q hq => (va_up_of (by omega)).trans ((va_up_of (by omega)).trans (R4.1.2.1 q hq)), fun a ha => (va_up_of (by omega)).trans ((va_up_of (by omega)).trans (R4.1.2.2 a ha))⟩ l2 (z_rA _ _ _) ((z_rAn (by decide)).trans ((z_rAn (by decide)).trans ((z_rAn (by decide)).trans (z_rA _ _ _)))) ((g7.1 21 (by decide)).trans h21) (fun j hj => by
      rw [va_up_at, z_sa_of (show 0 ≠ 1 by decide), z_sa_at, z_sa_at, z_rAn (show 28 ≠ 20 by decide), z_rA]
      by_cases c : j = k
      · rw [c, pk_us, pk_us, pk_un (show 2 * k ≠ 2 * k + 1 by omega), pk_us, pk_us]
        exact ⟨rfl, rfl⟩
      · rw [pk_un c, pk_un c, pk_un (show 2 * j ≠ 2 * k + 1 by omega), pk_un (show 2 * j ≠ 2 * k by omega), pk_un (show 2 * j + 1 ≠ 2 * k + 1 by omega), pk_un (show 2 * j + 1 ≠ 2 * k by omega)]
        exact hrel j (by omega))
    refine ⟨h', κ', σ', ?_, q2, ?_, q4⟩
    · rw [m_X8_steadyEfforts_3, if_neg (show ¬ (16 : Int32) ≤ nI k from nI_ge (b := 16) (by omega) (by decide)), z_d4 (by omega), z_m4 (by omega), Wca8 Q.1, s1, Option.bind_some, We2 R1.1.1, Option.bind_some, ca1 (Ww10 R1.1.1), f1, Option.bind_some, We2 R2.1.1, Option.bind_some, ca1 (Ww10 R2.1.1), f1', Option.bind_some, We2 R3.1.1, Option.bind_some, We3 R3.1.1, Option.bind_some, ca1 (Ww10 R3.1.1), g1, Option.bind_some, We7 W4, Option.bind_some, We3 W4, Option.bind_some, Option.bind_some, a1, Option.bind_some, a2, Option.bind_some, ca10 (Ww11 W4), a3, Option.bind_some, Option.bind_some, a5, Option.bind_some, a6, Option.bind_some, z_qsi (by decide) (show k < 16 by omega) c0, Option.bind_some, We8 W5, Option.bind_some, We3 W5, Option.bind_some, Option.bind_some, b1, Option.bind_some, b2, Option.bind_some, ca10 (Ww11 W5), b3, Option.bind_some, Option.bind_some, b5, Option.bind_some, b6, Option.bind_some, z_qsi (by decide) (show k < 16 by omega) (show va_up h4 (b + 150) (.inl (1, 16, .inl (upd (g_A (κ 15) 0) k (vu + r_A σ4 20 (14 + 5 * u))))) (b + 151) = .inl (1, 16, .inl (g_A (κ 15) 1)) by rw [va_up_of (by omega), c1]), Option.bind_some, nI_1]
      exact q1
    · rw [t_X12_rests_55, if_neg (show ¬ (16 : Int32) ≤ nI k from nI_ge (b := 16) (by omega) (by decide)), eF, Option.bind_some, nI_1]
      exact q3
/-- neither would have more by another EFFORT: the same on both sides -/
theorem z_steadyL {b : Nat} {κ : Nat → g_S} {σ : r_S} {h : q_H} (W : z_W b κ h) {u v : Nat} (hu : u < 4) (hv : v < 4) (hrel : ∀ j, j < 16 → g_A (κ 15) 0 j = r_A σ 28 (2 * j) ∧ g_A (κ 15) 1 j = r_A σ 28 (2 * j + 1)) : ∀ (m k fu fu' : Nat), k + m = 4 → m < fu → m < fu' → ∃ r, (r = 0 ∨ r = 1) ∧ m_X8_isSteady_9 fu h (b + 130) (nI u) (nI v) (nI (4 * u + v)) (nI k) = some r ∧ t_X12_isRest_2 fu' σ (nI u) (nI v) (nI k) = some r := by
  have i0 : ∀ x y : Nat, (2 : Int32) * ((4 : Int32) * nI x + nI y) = nI (2 * (4 * x + y)) := fun x y => by
    rw [show (4 : Int32) = nI 4 from rfl, pk_mul, nI_add, show (2 : Int32) = nI 2 from rfl, pk_mul]
  have i1 : ∀ x y : Nat, nI x * (4 : Int32) + nI y = nI (4 * x + y) := fun x y => by
    rw [show (4 : Int32) = nI 4 from rfl, pk_mul, nI_add, Nat.mul_comm]
  intro m
  induction m with
  | zero =>
    intro k fu fu' hk hf hf'
    obtain ⟨fu, rfl⟩ := Nat.exists_eq_succ_of_ne_zero (show fu ≠ 0 by omega)
    obtain ⟨fu', rfl⟩ := Nat.exists_eq_succ_of_ne_zero (show fu' ≠ 0 by omega)
    refine ⟨1, Or.inr rfl, ?_, ?_⟩
    · rw [m_X8_isSteady_9, if_pos (show (4 : Int32) ≤ nI k from nI_le (a := 4) (by omega) (by omega))]
    · rw [t_X12_isRest_2, if_pos (show (4 : Int32) ≤ nI k from nI_le (a := 4) (by omega) (by omega))]
  | succ m ih =>
    intro k fu fu' hk hf hf'
    obtain ⟨fu, rfl⟩ := Nat.exists_eq_succ_of_ne_zero (show fu ≠ 0 by omega)
    obtain ⟨fu', rfl⟩ := Nat.exists_eq_succ_of_ne_zero (show fu' ≠ 0 by omega)
    have c0 : ∀ j, j < 16 → q_ai h (b + 150) 1 (nI j) = some (r_A σ 28 (2 * j)) := fun j hj => by rw [z_qai (by decide) hj (Ww15 W), (hrel j hj).1]
    have c1 : ∀ j, j < 16 → q_ai h (b + 151) 1 (nI j) = some (r_A σ 28 (2 * j + 1)) := fun j hj => by rw [z_qai (by decide) hj (Ww16 W), (hrel j hj).2]
    obtain ⟨r, hr, a1, a2⟩ := ih (k + 1) fu fu' (by omega) (by omega) (by omega)
    obtain ⟨XA, hA⟩ : ∃ Z, m_X8_isSteady_9 (fu + 1) h (b + 130) (nI u) (nI v) (nI (4 * u + v)) (nI k) = Z := ⟨_, rfl⟩
    have eA := hA
    rw [m_X8_isSteady_9, if_neg (show ¬ (4 : Int32) ≤ nI k from nI_ge (b := 4) (by omega) (by decide)), We7 W, Option.bind_some, i1, c0 _ (by omega), Option.bind_some, Option.bind_some, c0 _ (by omega), Option.bind_some, We8 W, Option.bind_some, i1, c1 _ (by omega), Option.bind_some, Option.bind_some, c1 _ (by omega), Option.bind_some, nI_1] at eA
    obtain ⟨XB, hB⟩ : ∃ Z, t_X12_isRest_2 (fu' + 1) σ (nI u) (nI v) (nI k) = Z := ⟨_, rfl⟩
    have eB := hB
    rw [t_X12_isRest_2, if_neg (show ¬ (4 : Int32) ≤ nI k from nI_ge (b := 4) (by omega) (by decide)), i0, i0, i0, nI_1, nI_1, t_ai_in (by omega) (by decide), Option.bind_some, t_ai_in (by omega) (by decide), Option.bind_some, t_ai_in (by omega) (by decide), Option.bind_some, t_ai_in (by omega) (by decide), Option.bind_some, nI_1] at eB
    by_cases x1 : r_A σ 28 (2 * (4 * k + v)) ≤ r_A σ 28 (2 * (4 * u + v))
    · rw [if_pos x1] at eA
      rw [if_neg (fun e => Int32.not_le.mpr e x1)] at eB
      by_cases x2 : r_A σ 28 (2 * (4 * u + k) + 1) ≤ r_A σ 28 (2 * (4 * u + v) + 1)
      · rw [if_pos x2] at eA eB
        exact ⟨r, hr, by rw [hA, ← eA]; exact a1, by rw [hB, ← eB]; exact a2⟩
      · rw [if_neg x2] at eA eB
        exact ⟨0, Or.inl rfl, by rw [hA, ← eA], by rw [hB, ← eB]⟩
    · rw [if_neg x1] at eA
      rw [if_pos (Int32.not_le.mp x1)] at eB
      exact ⟨0, Or.inl rfl, by rw [hA, ← eA], by rw [hB, ← eB]⟩
theorem z_rest2L {b : Nat} {κ : Nat → g_S} {σ : r_S} {h : q_H} (W : z_W b κ h) (wh : Int32) (hrel : ∀ j, j < 16 → g_A (κ 15) 0 j = r_A σ 28 (2 * j) ∧ g_A (κ 15) 1 j = r_A σ 28 (2 * j + 1)) : ∀ (k fu fu' cnt : Nat) (fst : Int32), k ≤ 16 → k < fu → k < fu' → cnt + k ≤ 16 → ((cnt = 0 ∧ fst = -1) ∨ (0 < cnt ∧ ∃ f, f < 16 ∧ fst = nI f)) → ∃ r, m_X8_steadyEfforts_132 fu h (b + 130) wh (nI cnt) fst (nI k + (-1)) = some (r, h) ∧ t_X12_rests_87 fu' σ wh (nI cnt) fst (nI k + (-1)) = some (r, σ) := by
  intro k
  induction k with
  | zero =>
    intro fu fu' cnt fst hk hf hf' hc hi
    obtain ⟨fu, rfl⟩ := Nat.exists_eq_succ_of_ne_zero (show fu ≠ 0 by omega)
    obtain ⟨fu', rfl⟩ := Nat.exists_eq_succ_of_ne_zero (show fu' ≠ 0 by omega)
    have em : nI 0 + (-1) = (-1 : Int32) := by decide
    by_cases w0 : wh = 0
    · refine ⟨nI cnt, ?_, ?_⟩
      · rw [m_X8_steadyEfforts_132, em, if_pos (by decide), if_pos w0]
      · rw [t_X12_rests_87, em, if_pos (by decide), if_pos w0]
    · rcases hi with ⟨rfl, rfl⟩ | ⟨h1, f, hf16, rfl⟩
      · refine ⟨-2, ?_, ?_⟩
        · rw [m_X8_steadyEfforts_132, em, if_pos (by decide), if_neg w0, if_pos (by decide)]
        · rw [t_X12_rests_87, em, if_pos (by decide), if_neg w0, if_neg (by decide)]
      · by_cases w1 : wh = 1
        · refine ⟨nI f / 4, ?_, ?_⟩
          · rw [m_X8_steadyEfforts_132, em, if_pos (by decide), if_neg w0, if_neg (nI_ne0 h1 (by omega)), if_pos w1]
          · rw [t_X12_rests_87, em, if_pos (by decide), if_neg w0, if_pos (nI_pos' (by omega)), if_pos w1]
        · refine ⟨q_rmi (nI f) 4, ?_, ?_⟩
          · rw [m_X8_steadyEfforts_132, em, if_pos (by decide), if_neg w0, if_neg (nI_ne0 h1 (by omega)), if_neg w1]
          · rw [t_X12_rests_87, em, if_pos (by decide), if_neg w0, if_pos (nI_pos' (by omega)), if_neg w1]
  | succ k ih =>
    intro fu fu' cnt fst hk hf hf' hc hi
    obtain ⟨fu, rfl⟩ := Nat.exists_eq_succ_of_ne_zero (show fu ≠ 0 by omega)
    obtain ⟨fu', rfl⟩ := Nat.exists_eq_succ_of_ne_zero (show fu' ≠ 0 by omega)
    obtain ⟨r, hr, a1, a2⟩ := z_steadyL (u := k / 4) (v := k % 4) W (by omega) (by omega) hrel 4 0 q_fu q_fu (by omega) (by show 4 < 5000; omega) (by show 4 < 5000; omega)
    have e1 : m_X8_isSteady h (b + 130) (nI (k / 4)) (nI (k % 4)) = some r := by
      unfold m_X8_isSteady
      rw [show nI (k / 4) * (4 : Int32) + nI (k % 4) = nI (4 * (k / 4) + k % 4) by rw [show (4 : Int32) = nI 4 from rfl, pk_mul, nI_add, Nat.mul_comm]]
      exact a1
    have e2 : t_X12_isRest σ (nI (k / 4)) (nI (k % 4)) = some r := a2
    obtain ⟨XA, hA⟩ : ∃ Z, m_X8_steadyEfforts_132 (fu + 1) h (b + 130) wh (nI cnt) fst (nI (k + 1) + (-1)) = Z := ⟨_, rfl⟩
    have eA := hA
    rw [m_X8_steadyEfforts_132, pk_m1, if_neg (nI_pos (by omega)), z_d4 (by omega), z_m4 (by omega), Wca8 W, e1, Option.bind_some, m_X8_steadyEfforts_159, m_X8_steadyEfforts_159, nI_1] at eA
    obtain ⟨XB, hB⟩ : ∃ Z, t_X12_rests_87 (fu' + 1) σ wh (nI cnt) fst (nI (k + 1) + (-1)) = Z := ⟨_, rfl⟩
    have eB := hB
    rw [t_X12_rests_87, pk_m1, if_neg (nI_pos (by omega)), z_d4 (by omega), z_m4 (by omega), e2, Option.bind_some, t_X12_rests_117, t_X12_rests_117, nI_1] at eB
    rcases hr with rfl | rfl
    · rw [if_pos rfl] at eA eB
      obtain ⟨r, b1, b2⟩ := ih fu fu' cnt fst (by omega) (by omega) (by omega) (by omega) hi
      exact ⟨r, by rw [hA, ← eA]; exact b1, by rw [hB, ← eB]; exact b2⟩
    · rw [if_neg (by decide)] at eA eB
      obtain ⟨r, b1, b2⟩ := ih fu fu' (cnt + 1) (nI k) (by omega) (by omega) (by omega) (by omega) (Or.inr ⟨by omega, k, by omega, rfl⟩)
      exact ⟨r, by rw [hA, ← eA]; exact b1, by rw [hB, ← eB]; exact b2⟩
theorem z_rests {b n po c : Nat} {o : g_S} {κ : Nat → g_S} {σ : r_S} {h : q_H} (X : z_X b n po c o κ σ h) {N u v : Nat} (hN : N ≤ 20) (hu : u < n) (hv : v < n) (huv : u ≠ v) (wh : Int32) :
    ∃ r h' κ' σ', m_X8_steadyEfforts h (b + 130) (nI u) (nI v) (nI N) wh = some (r, h') ∧ z_q b κ κ' h h' ∧ (t_X12_keeps σ).bind (fun σ10 => t_X12_rests_55 q_fu σ10 (nI u) (nI v) (nI N) wh 0) = some (r, σ') ∧ z_k σ σ' ∧ r_A σ' 20 = r_A σ 20 ∧ r_A σ' 23 = r_A σ 23 ∧ r_I σ' 21 = r_I σ 21 := by
  obtain ⟨σ1, k1, k2, k3, k4, k5, k6⟩ := z_keeps σ
  obtain ⟨h', κ', σ', q1, q2, q3, q4, q5, q6, q7, q8⟩ := z_restL X hN hu hv huv wh 16 0 q_fu q_fu κ σ1 h (by omega) (by show 16 < 5000; omega) (by show 16 < 5000; omega) (z_q_refl X.1) k2 k3 k4 k5 (fun j hj => absurd hj (Nat.not_lt_zero _))
  obtain ⟨r, a1, a2⟩ := z_rest2L q2.1 wh q8 16 q_fu q_fu 0 (-1) (by omega) (by show 16 < 5000; omega) (by show 16 < 5000; omega) (by omega) (Or.inl ⟨rfl, rfl⟩)
  refine ⟨r, h', κ', σ', ?_, q2, ?_, q4, q5, q6, q7⟩
  · unfold m_X8_steadyEfforts
    exact q1.trans a1
  · rw [k1, Option.bind_some]
    exact q3.trans a2
