/-! ===== L3: RAIN ===== -/
def z_dw (j : Nat) : Nat := (j * 1103515245 + 12345) % 2147483648
theorem z_dw_lt (j : Nat) : z_dw j < 2 ^ 31 := by
  unfold z_dw
  omega
theorem z_dwL {j : Nat} (hj : j < 2 ^ 31) : q_rml (lN j * (1103515245 : Int64) + (12345 : Int64)) (2147483648 : Int64) = lN (z_dw j) := by
  rw [show (1103515245 : Int64) = lN 1103515245 from rfl, show (12345 : Int64) = lN 12345 from rfl, show (2147483648 : Int64) = lN 2147483648 from rfl, lN_mul, lN_add]
  exact pk_lRem (by omega) (by decide) (by decide)
theorem z_drawn2 {j : Nat} (hj : j < 2 ^ 31) : m_X8_drawnAfter (nI j) = some (nI (z_dw j)) := by
  unfold m_X8_drawnAfter
  rw [nI_l hj, z_dwL hj, lN_i]
theorem z_drawOf {j : Nat} (hj : j < 2 ^ 31) : m_X8_drawOf (nI j) = some (nI (j / 65536)) := by
  unfold m_X8_drawOf
  rw [show (65536 : Int32) = nI 65536 from rfl, pk_div hj (by decide) (by decide)]
theorem z_drawR {σ : r_S} {j q : Nat} (hj : j < 2 ^ 31) (hq : 0 < q) (hq2 : q < 2 ^ 31) (hD : r_D σ = lN j) : t_X12_draw σ (nI q) = some (nI (z_dw j / 65536 % q), r_sd σ (lN (z_dw j))) := by
  have hz := z_dw_lt j
  unfold t_X12_draw
  dsimp only
  rw [hD, z_dwL hj, nI_l hq2, if_neg (show ¬ lN q = 0 from fun e => by have := (lN_eq (b := 0) hq2 (by decide)).mp e; omega), show r_D (r_sd σ (lN (z_dw j))) = lN (z_dw j) from rfl, show (65536 : Int64) = lN 65536 from rfl, pk_lDiv (by omega) (by decide) (by decide)]
  rw [show q_rml (lN (z_dw j / 65536)) (lN q) = lN (z_dw j / 65536 % q) from pk_lRem (by omega) hq (by omega), lN_i]
theorem z_sdA (σ : r_S) (v : Int64) (k : Nat) : r_A (r_sd σ v) k = r_A σ k := rfl
theorem z_sdI (σ : r_S) (v : Int64) (k : Nat) : r_I (r_sd σ v) k = r_I σ k := rfl
theorem z_sdD (σ : r_S) (v : Int64) : r_D (r_sd σ v) = v := rfl
theorem z_saD (σ : r_S) (k : Nat) (f : Nat → Int32) : r_D (r_sa σ k f) = r_D σ := rfl
theorem z_saI (σ : r_S) (k j : Nat) (f : Nat → Int32) : r_I (r_sa σ k f) j = r_I σ j := rfl
theorem z_sdsd (σ : r_S) (v w : Int64) : r_sd (r_sd σ v) w = r_sd σ w := rfl
theorem z_run_sd {b n po : Nat} {κ0 κ : Nat → g_S} {σ0 σ : r_S} {h0 h : q_H} (v : Int64) (R : z_run b n po κ0 κ σ0 σ h0 h) : z_run b n po κ0 κ σ0 (r_sd σ v) h0 h := R
/-- who is taken off his feet, on both sides -/
theorem z_fall {b n po c q : Nat} {o : g_S} {κ0 κ : Nat → g_S} {σ0 σ : r_S} {h0 h : q_H} (X : z_X b n po c o κ0 σ0 h0) (R : z_run b n po κ0 κ σ0 σ h0 h) (hq : q < n) : ∃ h' κ', q_pf h (b + 131) 10 2 (.int (g_I (κ 11) 2 &&& (((1 : Int32) <<< (nI q &&& 31)) ^^^ (-1)))) = some h' ∧ z_run b n po κ0 κ' σ0 (r_sa σ 20 (upd (r_A σ 20) (15 + 5 * q) 0)) h0 h' ∧ (∀ k, k ≠ 11 → κ' k = κ k) := by
  have hn : n ≤ 8 := X.2.2.2.2.2.1.1
  obtain ⟨Q, K, ht, hV, hY0, hru, hpl⟩ := R
  obtain ⟨W, hk, hh⟩ := Q
  obtain ⟨h', d1, d2, d3⟩ := pi10_2 (g_I (κ 11) 2 &&& (((1 : Int32) <<< (nI q &&& 31)) ^^^ (-1))) (Ww11 W)
  refine ⟨h', _, d1, ⟨⟨W_11 W d2 d3, fun k hkk => (va_up_of (by omega)).trans (hk k hkk), fun a ha => (d3 a (by unfold f10; omega)).trans (hh a ha)⟩, ⟨K.1, fun k x1 x2 x3 => (z_rAn x1).trans (K.2.1 k x1 x2 x3), fun j hj => by rw [z_rAn (by decide)]; exact K.2.2.1 j hj, fun j hj => by rw [z_rA, pk_un (by omega)]; exact K.2.2.2 j hj⟩, ?_, ?_, ?_, ?_, ?_⟩, fun k hkk => va_up_of hkk⟩
  · rw [va_up_at, z_rA]
    obtain ⟨t0, t1, t2, tA⟩ := ht
    refine ⟨?_, ?_, ?_, fun p hp => ?_⟩
    · rw [z_si_In (by decide), pk_un (by omega)]; exact t0
    · rw [z_si_In (by decide), pk_un (by omega)]; exact t1
    · rw [z_si_I, t2, z_non _ hn (by omega)]
      congr 1
      refine z_m_ext (fun p hp => ?_)
      unfold z_up
      by_cases e : p = q
      · rw [e, pk_us]
        simp
      · rw [pk_un (by omega)]
        simp [e]
    · rw [z_si_A, pk_un (by omega), pk_un (by omega), pk_un (by omega), pk_un (by omega)]
      exact tA p hp
  · rw [z_rA]
    obtain ⟨v1, v2, v3⟩ := hV
    refine ⟨?_, fun p hp => ?_, z_P_ext (fun p hp => ⟨pk_un (by omega), pk_un (by omega)⟩) v3⟩
    · rw [pk_un (by omega)]; exact v1
    · rw [pk_un (by omega), pk_un (by omega), pk_un (by omega)]; exact v2 p hp
  · rw [va_up_of (by decide)]; exact hY0
  · rw [va_up_of (by decide)]
    exact z_ru_fr hru (fun a ha => d3 a (by unfold f10; omega)) (z_rAn (by decide)) (z_rAn (by decide)) (z_rAn (by decide))
  · intro p hp
    rw [va_up_of (by decide), z_rAn (by decide)]
    exact hpl p hp
theorem z_rainI {b n po c : Nat} {o : g_S} {κ0 : Nat → g_S} {σ0 : r_S} {h0 : q_H} (X : z_X b n po c o κ0 σ0 h0) {N : Nat} (hN : N ≤ 60) (M P wh won far tm : Int32) (kC : q_H → Nat → Int32 → Int32 → Int32 → Int32 → Int32 → Int32 → Int32 → Int32 → Option (Int32 × q_H)) (kR : r_S → Int32 → Int32 → Int32 → Int32 → Int32 → Int32 → Int32 → Option (Int32 × r_S)) : ∀ (m k fu fu' j : Nat) (κ : Nat → g_S) (σ : r_S) (h : q_H), k + m = N → m < fu → m < fu' → z_run b n po κ0 κ σ0 σ h0 h → r_A σ 23 = r_A σ0 23 → r_I σ 21 = r_I σ0 21 → j < 2 ^ 31 → r_D σ = lN j →
    ∃ won' far' j' h' κ' σ', m_X8_inRain_31 kC fu h (b + 130) M (nI N) P wh won far (nI j) tm (nI k) = kC h' (b + 130) M (nI N) P wh won' far' (nI j') (tm + 1) ∧ z_q b κ0 κ' h0 h' ∧ t_X12_rain_87 kR fu' σ M (nI N) P wh won far tm (nI k) = kR σ' M (nI N) P wh won' far' (tm + 1) ∧ z_k σ0 σ' ∧ r_A σ' 20 = r_A σ0 20 ∧ r_A σ' 23 = r_A σ0 23 ∧ r_I σ' 21 = r_I σ0 21 ∧ j' < 2 ^ 31 ∧ r_D σ' = lN j' := by
  have hn : n ≤ 8 := X.2.2.2.2.2.1.1
  intro m
  induction m with
  | zero =>
    intro k fu fu' j κ σ h hk hf hf' R h23 h21 hj hD
    obtain ⟨fu, rfl⟩ := Nat.exists_eq_succ_of_ne_zero (show fu ≠ 0 by omega)
    obtain ⟨fu', rfl⟩ := Nat.exists_eq_succ_of_ne_zero (show fu' ≠ 0 by omega)
    obtain ⟨l1, l2⟩ := z_lays R.2.1
    obtain ⟨hR, ho⟩ := z_XR X R.2.1
    have W := R.1.1
    refine ⟨won + (if r_A σ 20 11 < r_A σ 20 1 then 0 else 1), far + (r_A σ 20 11 + 200), j, h, κ, _, ?_, R.1, ?_, l2, z_rA _ _ _, by rw [z_rAn (by decide)]; exact h23, h21, hj, hD⟩
    · rw [m_X8_inRain_31, if_pos (nI_le (by omega) (by omega)), We3 W, Option.bind_some, gi10_0 (Ww11 W), Option.bind_some, We0 W, Option.bind_some, Wgr W (z_Xpo X R.1), Option.bind_some, gi4_0 (z_Xg4 X R.1), Option.bind_some, R.2.2.1.1, ho.2.1]
      by_cases cc : r_A σ 20 11 < r_A σ 20 1
      · rw [if_pos cc, if_pos cc, m_X8_inRain_153, We3 W, Option.bind_some, gi10_0 (Ww11 W), Option.bind_some, R.2.2.1.1]
      · rw [if_neg cc, if_neg cc, m_X8_inRain_153, We3 W, Option.bind_some, gi10_0 (Ww11 W), Option.bind_some, R.2.2.1.1]
    · rw [t_X12_rain_87, if_pos (nI_le (by omega) (by omega)), z_a11, Option.bind_some, z_a1, Option.bind_some]
      by_cases cc : r_A σ 20 11 < r_A σ 20 1
      · rw [if_pos cc, if_pos cc, t_X12_rain_168, z_a11, Option.bind_some, l1, Option.bind_some]
      · rw [if_neg cc, if_neg cc, t_X12_rain_168, z_a11, Option.bind_some, l1, Option.bind_some]
  | succ m ih =>
    intro k fu fu' j κ σ h hk hf hf' R h23 h21 hj hD
    obtain ⟨fu, rfl⟩ := Nat.exists_eq_succ_of_ne_zero (show fu ≠ 0 by omega)
    obtain ⟨fu', rfl⟩ := Nat.exists_eq_succ_of_ne_zero (show fu' ≠ 0 by omega)
    have hz1 := z_dw_lt j
    have hz2 := z_dw_lt (z_dw j)
    have W := R.1.1
    obtain ⟨hR, ho⟩ := z_XR X R.2.1
    -- the HEAVE behind it
    have go : ∀ (h1 : q_H) (κ1 : Nat → g_S) (σ1 : r_S) (j1 : Nat), z_run b n po κ0 κ1 σ0 σ1 h0 h1 → r_A σ1 23 = r_A σ0 23 → r_I σ1 21 = r_I σ0 21 → j1 < 2 ^ 31 → r_D σ1 = lN j1 → m_X8_inRain_31 kC (fu + 1) h (b + 130) M (nI N) P wh won far (nI j) tm (nI k) = m_X8_inRain_108 kC (m_X8_inRain_31 kC fu) h1 (b + 130) M (nI N) P wh won far (nI j1) tm (nI k) → t_X12_rain_87 kR (fu' + 1) σ M (nI N) P wh won far tm (nI k) = t_X12_rain_135 kR (t_X12_rain_87 kR fu') σ1 M (nI N) P wh won far tm (nI k) →
        ∃ won' far' j' h' κ' σ', m_X8_inRain_31 kC (fu + 1) h (b + 130) M (nI N) P wh won far (nI j) tm (nI k) = kC h' (b + 130) M (nI N) P wh won' far' (nI j') (tm + 1) ∧ z_q b κ0 κ' h0 h' ∧ t_X12_rain_87 kR (fu' + 1) σ M (nI N) P wh won far tm (nI k) = kR σ' M (nI N) P wh won' far' (tm + 1) ∧ z_k σ0 σ' ∧ r_A σ' 20 = r_A σ0 20 ∧ r_A σ' 23 = r_A σ0 23 ∧ r_I σ' 21 = r_I σ0 21 ∧ j' < 2 ^ 31 ∧ r_D σ' = lN j' := by
      intro h1 κ1 σ1 j1 R1 e23 e21 hj1 hD1 x y
      obtain ⟨h2, κ2, σ2, g1, R2, g3, g4, g5, g6, g7, g8, g9⟩ := z_run_go (m := 1) X R1 (by decide)
      obtain ⟨won', far', j', h', κ', σ', q1, q2, q3, q4⟩ := ih (k + 1) fu fu' j1 κ2 σ2 h2 (by omega) (by omega) (by omega) R2 ((g7.2.1 23 (by decide) (by decide)).trans e23) ((g7.1 21 (by decide)).trans e21) hj1 (g7.2.2.trans hD1)
      refine ⟨won', far', j', h', κ', σ', ?_, q2, ?_, q4⟩
      · rw [x, m_X8_inRain_108, We2 R1.1.1, Option.bind_some, We3 R1.1.1, Option.bind_some, ca1 (Ww10 R1.1.1), show m_X1_heaveOn h1 (b + 124) (b + 131) 1 = _ from g1, Option.bind_some, nI_1]
        exact q1
      · rw [y, t_X12_rain_135, g4 rfl, Option.bind_some, nI_1]
        exact q3
    obtain ⟨XA, hA⟩ : ∃ Z, m_X8_inRain_31 kC (fu + 1) h (b + 130) M (nI N) P wh won far (nI j) tm (nI k) = Z := ⟨_, rfl⟩
    have eA := hA
    rw [m_X8_inRain_31, if_neg (nI_ge (show k < N by omega) (by omega)), z_drawn2 hj, Option.bind_some, z_drawOf hz1, Option.bind_some, show q_rmi (nI (z_dw j / 65536)) 100 = nI (z_dw j / 65536 % 100) from pk_rem (d := 100) (by omega) (by decide) (by decide), We0 W, Option.bind_some, Wgr W (z_Xpo X R.1), Option.bind_some, gi4_3 (z_Xg4 X R.1), Option.bind_some, X.2.2.2.2.1.1] at eA
    obtain ⟨XB, hB⟩ : ∃ Z, t_X12_rain_87 kR (fu' + 1) σ M (nI N) P wh won far tm (nI k) = Z := ⟨_, rfl⟩
    have eB := hB
    rw [t_X12_rain_87, if_neg (nI_ge (show k < N by omega) (by omega)), show t_X12_draw σ 100 = _ from z_drawR (q := 100) hj (by decide) (by decide) hD, Option.bind_some] at eB
    dsimp only at eB
    rw [z_a3, Option.bind_some, Option.bind_some, z_sdA, hR.2.2.1] at eB
    by_cases c1 : P ≤ nI (z_dw j / 65536 % 100)
    · rw [if_pos c1] at eA eB
      exact go h κ (r_sd σ (lN (z_dw j))) (z_dw j) (z_run_sd _ R) (by rw [z_sdA]; exact h23) (by rw [z_sdI]; exact h21) hz1 (z_sdD _ _) (hA.trans eA.symm) (hB.trans eB.symm)
    · rw [if_neg c1] at eA eB
      by_cases c2 : nI n ≤ 0
      · rw [if_pos c2] at eA eB
        exact go h κ (r_sd σ (lN (z_dw j))) (z_dw j) (z_run_sd _ R) (by rw [z_sdA]; exact h23) (by rw [z_sdI]; exact h21) hz1 (z_sdD _ _) (hA.trans eA.symm) (hB.trans eB.symm)
      · rw [if_neg c2] at eA eB
        have hn0 : 0 < n := by
          apply Nat.pos_of_ne_zero
          intro e
          rw [e] at c2
          exact c2 (by decide)
        have hq : z_dw (z_dw j) / 65536 % n < n := Nat.mod_lt _ hn0
        obtain ⟨h1, κ1, f1, R1, f3⟩ := z_fall X (z_run_sd (lN (z_dw (z_dw j))) R) hq
        rw [z_drawn2 hz1, Option.bind_some, We3 W, Option.bind_some, gi10_2 (Ww11 W), Option.bind_some, z_drawOf hz2, Option.bind_some, Option.bind_some, Wgr W (z_Xpo X R.1), Option.bind_some, gi4_3 (z_Xg4 X R.1), Option.bind_some, X.2.2.2.2.1.1, if_neg (nI_ne0 hn0 (by omega)), show q_rmi (nI (z_dw (z_dw j) / 65536)) (nI n) = nI (z_dw (z_dw j) / 65536 % n) from pk_rem (by omega) hn0 (by omega), f1, Option.bind_some] at eA
        rw [z_drawR (σ := r_sd σ (lN (z_dw j))) hz1 hn0 (by omega) rfl, Option.bind_some] at eB
        dsimp only at eB
        rw [z_sdsd, z_i3, t_si_in (by omega) (by decide), Option.bind_some] at eB
        exact go h1 κ1 _ (z_dw (z_dw j)) R1 (by rw [z_rAn (by decide), z_sdA]; exact h23) (by rw [z_saI, z_sdI]; exact h21) hz2 (by rw [z_saD, z_sdD]) (hA.trans eA.symm) (hB.trans eB.symm)
theorem z_rainO {b n po c : Nat} {o : g_S} {κ0 : Nat → g_S} {σ0 : r_S} {h0 : q_H} (X : z_X b n po c o κ0 σ0 h0) {N M : Nat} (hN : N ≤ 60) (hM : M ≤ 10) (P wh : Int32) : ∀ (m k fu fu' j : Nat) (won far : Int32) (κ : Nat → g_S) (σ : r_S) (h : q_H), k + m = M → m < fu → m < fu' → z_q b κ0 κ h0 h → z_k σ0 σ → r_A σ 20 = r_A σ0 20 → r_A σ 23 = r_A σ0 23 → r_I σ 21 = r_I σ0 21 → j < 2 ^ 31 → r_D σ = lN j →
    ∃ r h' κ' σ', m_X8_inRain_18 fu h (b + 130) (nI M) (nI N) P wh won far (nI j) (nI k) = some (r, h') ∧ z_q b κ0 κ' h0 h' ∧ t_X12_rain_78 fu' σ (nI M) (nI N) P wh won far (nI k) = some (r, σ') ∧ z_k σ0 σ' ∧ r_A σ' 20 = r_A σ0 20 ∧ r_A σ' 23 = r_A σ0 23 ∧ r_I σ' 21 = r_I σ0 21 := by
  intro m
  induction m with
  | zero =>
    intro k fu fu' j won far κ σ h hk hf hf' Q K h20 h23 h21 hj hD
    obtain ⟨fu, rfl⟩ := Nat.exists_eq_succ_of_ne_zero (show fu ≠ 0 by omega)
    obtain ⟨fu', rfl⟩ := Nat.exists_eq_succ_of_ne_zero (show fu' ≠ 0 by omega)
    refine ⟨if wh = 0 then won else far, h, κ, σ, ?_, Q, ?_, K, h20, h23, h21⟩
    · rw [m_X8_inRain_18, if_pos (nI_le (by omega) (by omega))]
      split <;> rfl
    · rw [t_X12_rain_78, if_pos (nI_le (by omega) (by omega))]
      split <;> rfl
  | succ m ih =>
    intro k fu fu' j won far κ σ h hk hf hf' Q K h20 h23 h21 hj hD
    obtain ⟨fu, rfl⟩ := Nat.exists_eq_succ_of_ne_zero (show fu ≠ 0 by omega)
    obtain ⟨fu', rfl⟩ := Nat.exists_eq_succ_of_ne_zero (show fu' ≠ 0 by omega)
    obtain ⟨h1, κ1, s1, R1, s3⟩ := z_run_start X Q K h20 h23 h21
    obtain ⟨won', far', j', h2, κ2, σ2, q1, q2, q3, q4, q5, q6, q7, q8, q9⟩ := z_rainI X hN (nI M) P wh won far (nI k) (m_X8_inRain_18 fu) (t_X12_rain_78 fu') N 0 q_fu q_fu j κ1 σ h1 (by omega) (by show N < 5000; omega) (by show N < 5000; omega) R1 h23 h21 hj hD
    rw [nI_1] at q1 q3
    obtain ⟨r, h', κ', σ', a1, a2, a3, a4⟩ := ih (k + 1) fu fu' j' won' far' κ2 σ2 h2 (by omega) (by omega) (by omega) q2 q4 q5 q6 q7 q8 q9
    refine ⟨r, h', κ', σ', ?_, a2, ?_, a4⟩
    · rw [m_X8_inRain_18, if_neg (nI_ge (show k < M by omega) (by omega)), Wca8 Q.1, s1, Option.bind_some]
      exact q1.trans a1
    · rw [t_X12_rain_78, if_neg (nI_ge (show k < M by omega) (by omega))]
      exact q3.trans a3
theorem z_rain {b n po c : Nat} {o : g_S} {κ : Nat → g_S} {σ : r_S} {h : q_H} (X : z_X b n po c o κ σ h) {N M : Nat} (hN : N ≤ 60) (hM : M ≤ 10) (P wh : Int32) (hx : g_I (κ 6) 3 = r_I σ 22) (hx0 : ¬ r_I σ 22 < 0) :
    ∃ r h' κ' σ', m_X8_inRain h (b + 130) (nI M) (nI N) P wh = some (r, h') ∧ z_q b κ κ' h h' ∧ (t_X12_keeps (r_sd σ (r_I σ 22).toInt64)).bind (fun σ14 => t_X12_rain_78 q_fu σ14 (nI M) (nI N) P wh 0 0 0) = some (r, σ') ∧ z_k σ σ' ∧ r_A σ' 20 = r_A σ 20 ∧ r_A σ' 23 = r_A σ 23 ∧ r_I σ' 21 = r_I σ 21 := by
  obtain ⟨σ1, k1, k2, k3, k4, k5, k6⟩ := z_keeps (r_sd σ (r_I σ 22).toInt64)
  obtain ⟨j, hj, ej⟩ := nI_of hx0
  have K1 : z_k σ σ1 := k2
  obtain ⟨r, h', κ', σ', a1, a2, a3, a4⟩ := z_rainO X hN hM P wh M 0 q_fu q_fu j 0 0 κ σ1 h (by omega) (by show M < 5000; omega) (by show M < 5000; omega) (z_q_refl X.1) K1 k3 k4 k5 hj (by rw [k6]; show (r_I σ 22).toInt64 = lN j; rw [ej, nI_l hj])
  refine ⟨r, h', κ', σ', ?_, a2, ?_, a4⟩
  · unfold m_X8_inRain
    rw [We0 X.1, Option.bind_some, show q_gi h (b + 13) 0 3 = some (g_I (κ 6) 3) from gi0_3 (Ww6 X.1), Option.bind_some, hx, ej]
    exact a1
  · rw [k1, Option.bind_some]
    exact a3
