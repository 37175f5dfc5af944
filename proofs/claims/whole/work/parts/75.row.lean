/-! ===== L3: ROW, OUT, TRADE ===== -/
section NEAR
variable {b n po c : Nat} {o : g_S} {κ0 κ : Nat → g_S} {σ0 σ : r_S} {h0 h : q_H}
/-- an EFFORT is laid down on both sides -/
theorem z_fix {p e : Nat} (R : z_run b n po κ0 κ σ0 σ h0 h) (hp : p < 8) (he : e ≤ 3) : ∃ h' κ', m_X1_fix h (b + 124) (nI p) (nI e) = some h' ∧ z_run b n po κ0 κ' σ0 (r_sa σ 23 (upd (r_A σ 23) p (nI e))) h0 h' ∧ (∀ k, k ≠ 10 → κ' k = κ k) := by
  obtain ⟨Q, K, ht, hV, hY0, hru, hpl⟩ := R
  obtain ⟨W, hk, hh⟩ := Q
  have hm : t_X1_fix (κ 10) (nI p) (nI e) = some (g_sa (κ 10) 2 (upd (g_A (κ 10) 2) p (nI e))) := by
    unfold t_X1_fix
    try dsimp only
    rw [if_neg (nI_pos (by omega)), show Int32.ofNat 8 = nI 8 from rfl, if_neg (nI_ge hp (by decide)), u_si_in hp (by decide)]
    rfl
  obtain ⟨h', d1, d2, d3, d4⟩ := l_X1_fix h (b + 124) (κ 10) (nI p) (nI e) hm (Ww10 W)
  have e10 : va_up κ 10 (g_sa (κ 10) 2 (upd (g_A (κ 10) 2) p (nI e))) 10 = g_sa (κ 10) 2 (upd (g_A (κ 10) 2) p (nI e)) := va_up_at _ _ _
  refine ⟨h', va_up κ 10 (g_sa (κ 10) 2 (upd (g_A (κ 10) 2) p (nI e))), d1, ⟨⟨W_10 W d2 d4, fun k hkk => (va_up_of (by omega)).trans (hk k hkk), fun a ha => (d4 a (by unfold f1; omega)).trans (hh a ha)⟩, ⟨K.1, fun k a c' b' => (z_rAn c').trans (K.2.1 k a c' b'), fun j hj => by rw [z_rAn (by decide)]; exact K.2.2.1 j hj, fun j hj => by rw [z_rAn (by decide)]; exact K.2.2.2 j hj⟩, ?_, ?_, ?_, ?_, fun q hq => ?_⟩, fun k hkk => va_up_of hkk⟩
  · rw [va_up_of (by decide), z_rAn (by decide)]; exact ht
  · rw [z_rAn (by decide)]; exact hV
  · rw [e10]; exact hY0
  · rw [e10]
    exact z_ru_fr hru (fun a ha => d4 a (by unfold f1; omega)) (z_rAn (by decide)) (z_rAn (by decide)) (z_rAn (by decide))
  · rw [e10, z_sa_at, z_rA]
    by_cases c1 : q = p
    · rw [c1, pk_us, pk_us]
      exact ⟨rfl, Or.inr ⟨e, he, rfl⟩⟩
    · rw [pk_un c1, pk_un c1]
      exact hpl q hq
/-- m HEAVES on, how near the RIBBON is to 0 then -/
def z_abs (v : Int32) : Int32 := if 0 ≤ v then v else 0 - v
theorem z_near {m : Nat} (X : z_X b n po c o κ0 σ0 h0) (R : z_run b n po κ0 κ σ0 σ h0 h) (hm : m ≤ 200) : ∃ h' κ' σ', m_X1_heaveOn h (b + 124) (b + 131) (nI m) = some h' ∧ z_q b κ0 κ' h0 h' ∧ (∀ k, k ≠ 10 → k ≠ 11 → κ' k = κ k) ∧ t_X12_nearIn σ (nI m) = some (z_abs (g_I (κ' 11) 0), σ') ∧ z_k σ0 σ' ∧ r_A σ' 20 = r_A σ0 20 ∧ r_A σ' 23 = r_A σ 23 ∧ r_I σ' 21 = r_I σ 21 := by
  obtain ⟨h', κ', σ', c1, R', c3, c4, c5, c6, c7, c8, c9⟩ := z_run_go X R hm
  obtain ⟨l1, l2⟩ := z_lays R'.2.1
  refine ⟨h', κ', r_sa σ' 20 (r_A σ0 20), c1, R'.1, c6, ?_, l2, z_rA _ _ _, (z_rAn (by decide)).trans (c7.2.1 23 (by decide) (by decide)), c7.1 21 (by decide)⟩
  have e33 : ∀ v, t_X12_nearIn_33 σ' v = some (v, r_sa σ' 20 (r_A σ0 20)) := fun v => by
    unfold t_X12_nearIn_33
    rw [l1]
    rfl
  unfold t_X12_nearIn z_abs
  rw [c3, Option.bind_some, z_a11, Option.bind_some, R'.2.2.1.1]
  by_cases cc : 0 ≤ r_A σ' 20 11
  · rw [if_pos cc, if_pos cc, Option.bind_some, e33]
  · rw [if_neg cc, if_neg cc, Option.bind_some, e33]
end NEAR
/-! ROW -/
theorem z_rowE : ∀ n, n < 5 → ∀ k, k < n → ∀ w, w < 256 → ∃ e, e < 4 ∧ (nI w >>> (((2 : Int32) * (nI n - nI (k + 1))) &&& 31)) &&& 3 = nI e ∧ q_rmi (nI w / ((1 : Int32) <<< (((2 : Int32) * ((nI n - 1) - nI k)) &&& 31))) 4 = nI e ∧ ¬ ((1 : Int32) <<< (((2 : Int32) * ((nI n - 1) - nI k)) &&& 31)) = 0 := by decide +kernel
theorem z_row4 : ∀ n, n < 5 → (1 : Int32) <<< (((2 : Int32) * nI n) &&& 31) = nI (4 ^ n) := by decide +kernel
theorem z_towards {b n p : Nat} {κ : Nat → g_S} {σ : r_S} {h : q_H} (W : z_W b κ h) (hn : n ≤ 8) (hp : p < n) (ht : z_t (κ 11) (r_A σ 20) n) (hside : nb (r_A σ 20 (12 + 5 * p)) 1) : ∃ v, m_X10_towards h (b + 131) (r_A σ 20 (12 + 5 * p)) = some v ∧ t_X12_towards σ (nI p) = some v := by
  refine ⟨if r_A σ 20 (12 + 5 * p) = 1 then r_A σ 20 11 else 0 - r_A σ 20 11, ?_, ?_⟩
  · refine l_X10_towards _ _ _ _ ?_ (Ww11 W)
    unfold t_X10_towards
    try dsimp only
    obtain ⟨c, hc, ec⟩ := hside
    rw [ht.1, ec]
    rcases (show c = 0 ∨ c = 1 by omega) with rfl | rfl
    · rw [if_pos (by decide), if_neg (by decide)]
    · rw [if_neg (by decide), if_pos (by decide)]
  · unfold t_X12_towards
    rw [z_sideOf (by omega), Option.bind_some, z_a11]
    split <;> rfl
theorem z_farL {b n po c : Nat} {o : g_S} {κ0 : Nat → g_S} {σ0 : r_S} {h0 : q_H} (X : z_X b n po c o κ0 σ0 h0) {p N w : Nat} (hp : p < n) (hN : N < 5) (hw : w < 256) : ∀ (m k fu fu' : Nat) (κ : Nat → g_S) (σ : r_S) (h : q_H), k + m = N → m < fu → m < fu' → z_run b n po κ0 κ σ0 σ h0 h → (∀ q, q < 8 → q ≠ p → r_A σ 23 q = r_A σ0 23 q) → (∀ q, 8 ≤ q → r_A σ 23 q = r_A σ0 23 q) → r_I σ 21 = r_I σ0 21 →
    ∃ r h' κ' σ', m_X8_farByRow_7 fu h (b + 130) (nI p) (nI N) (nI w) (nI (k + 1)) = some (r, h') ∧ z_q b κ0 κ' h0 h' ∧ t_X12_farBy_3 fu' σ (nI p) (nI N) (nI w) (nI k) = some (r, σ') ∧ z_k σ0 σ' ∧ r_A σ' 20 = r_A σ0 20 ∧ r_A σ' 23 = r_A σ0 23 ∧ r_I σ' 21 = r_I σ0 21 := by
  have hn : n ≤ 8 := X.2.2.2.2.2.1.1
  intro m
  induction m with
  | zero =>
    intro k fu fu' κ σ h hk hf hf' R h23 h23' h21
    obtain ⟨fu, rfl⟩ := Nat.exists_eq_succ_of_ne_zero (show fu ≠ 0 by omega)
    obtain ⟨fu', rfl⟩ := Nat.exists_eq_succ_of_ne_zero (show fu' ≠ 0 by omega)
    have e23 : upd (r_A σ 23) p (-1) = r_A σ0 23 := by
      funext q
      by_cases c1 : q = p
      · rw [c1, pk_us, X.2.2.2.2.2.2.2.2.2.2.2 p (by omega)]
      · rw [pk_un c1]
        by_cases c2 : q < 8
        · exact h23 q c2 c1
        · exact h23' q (by omega)
    have K2 : z_k σ0 (r_sa σ 23 (r_A σ0 23)) := ⟨R.2.1.1, fun k a c' b' => (z_rAn c').trans (R.2.1.2.1 k a c' b'), fun j hj => by rw [z_rAn (by decide)]; exact R.2.1.2.2.1 j hj, fun j hj => by rw [z_rAn (by decide)]; exact R.2.1.2.2.2 j hj⟩
    obtain ⟨l1, l2⟩ := z_lays K2
    have W := R.1.1
    obtain ⟨v, t1, t2⟩ := z_towards (σ := r_sa σ 23 (r_A σ0 23)) W hn hp (by rw [z_rAn (by decide)]; exact R.2.2.1) (by rw [z_rAn (by decide)]; exact (R.2.2.2.1.2.1 p hp).1)
    rw [z_rAn (show 20 ≠ 23 by decide)] at t1
    refine ⟨v, h, κ, _, ?_, R.1, ?_, l2, z_rA _ _ _, (z_rAn (by decide)).trans (z_rA _ _ _), h21⟩
    · rw [m_X8_farByRow_7, if_pos (nI_lt (show N < k + 1 by omega) (by omega)), We3 W, Option.bind_some, Option.bind_some, gn10_3 (Ww11 W), Option.bind_some, ai10_3 (Ww11 W), t_ai_in (by omega) (by decide), Option.bind_some, ca10 (Ww11 W), (R.2.2.1.2.2.2 p hp).1, t1]
      rfl
    · rw [t_X12_farBy_3, if_pos (nI_le (show N ≤ k by omega) (by omega)), t_si_in (by omega) (by decide), Option.bind_some, e23, t2, Option.bind_some, l1]
      rfl
  | succ m ih =>
    intro k fu fu' κ σ h hk hf hf' R h23 h23' h21
    obtain ⟨fu, rfl⟩ := Nat.exists_eq_succ_of_ne_zero (show fu ≠ 0 by omega)
    obtain ⟨fu', rfl⟩ := Nat.exists_eq_succ_of_ne_zero (show fu' ≠ 0 by omega)
    obtain ⟨e, he, e1, e2, e3⟩ := z_rowE N hN k (by omega) w hw
    obtain ⟨h1, κ1, f1, R1, f3⟩ := z_fix (p := p) (e := e) R (by omega) (by omega)
    obtain ⟨h2, κ2, σ2, g1, R2, g3, g4, g5, g6, g7, g8, g9⟩ := z_run_go (m := 1) X R1 (by decide)
    have e23 : r_A σ2 23 = upd (r_A σ 23) p (nI e) := (g7.2.1 23 (by decide) (by decide)).trans (z_rA _ _ _)
    obtain ⟨r, h', κ', σ', q1, q2, q3, q4⟩ := ih (k + 1) fu fu' κ2 σ2 h2 (by omega) (by omega) (by omega) R2 (fun q hq hne => by rw [e23, pk_un hne]; exact h23 q hq hne) (fun q hq => by rw [e23, pk_un (by omega)]; exact h23' q hq) ((g7.1 21 (by decide)).trans h21)
    refine ⟨r, h', κ', σ', ?_, q2, ?_, q4⟩
    · rw [m_X8_farByRow_7, if_neg (nI_nlt (show k + 1 ≤ N by omega) (by omega)), We2 R.1.1, Option.bind_some]
      unfold m_X8_effortIn
      rw [Option.bind_some, e1, ca1 (Ww10 R.1.1), f1, Option.bind_some, We2 R1.1.1, Option.bind_some, We3 R1.1.1, Option.bind_some, ca1 (Ww10 R1.1.1), show (1 : Int32) = nI 1 from rfl, g1, Option.bind_some, nI_add]
      exact q1
    · rw [t_X12_farBy_3, if_neg (nI_ge (show k < N by omega) (by omega))]
      unfold m_X12_placeOfFour
      rw [Option.bind_some, if_neg e3, e2, t_si_in (by omega) (by decide), Option.bind_some, g4 rfl, Option.bind_some, nI_1]
      exact q3
theorem z_far {b n po c : Nat} {o : g_S} {κ0 κ : Nat → g_S} {σ0 σ : r_S} {h0 h : q_H} (X : z_X b n po c o κ0 σ0 h0) {p N w : Nat} (hp : p < n) (hN : N < 5) (hw : w < 256) (Q : z_q b κ0 κ h0 h) (K : z_k σ0 σ) (h20 : r_A σ 20 = r_A σ0 20) (h23 : r_A σ 23 = r_A σ0 23) (h21 : r_I σ 21 = r_I σ0 21) :
    ∃ r h' κ' σ', m_X8_farByRow h (b + 130) (nI p) (nI N) (nI w) = some (r, h') ∧ z_q b κ0 κ' h0 h' ∧ t_X12_farBy σ (nI p) (nI N) (nI w) = some (r, σ') ∧ z_k σ0 σ' ∧ r_A σ' 20 = r_A σ0 20 ∧ r_A σ' 23 = r_A σ0 23 ∧ r_I σ' 21 = r_I σ0 21 := by
  obtain ⟨h1, κ1, s1, R1, s3⟩ := z_run_start X Q K h20 h23 h21
  obtain ⟨r, h', κ', σ', q1, q2, q3, q4⟩ := z_farL X hp hN hw N 0 q_fu q_fu κ1 σ h1 (by omega) (by show N < 5000; omega) (by show N < 5000; omega) R1 (fun q _ _ => by rw [h23]) (fun q _ => by rw [h23]) h21
  refine ⟨r, h', κ', σ', ?_, q2, q3, q4⟩
  unfold m_X8_farByRow
  rw [Wca8 Q.1, s1, Option.bind_some]
  exact q1
theorem z_rowL {b n po c : Nat} {o : g_S} {κ0 : Nat → g_S} {σ0 : r_S} {h0 : q_H} (X : z_X b n po c o κ0 σ0 h0) {p N wh : Nat} (hp : p < n) (hN1 : 1 ≤ N) (hN : N < 5) (hwh : wh ≤ N) : ∀ (m k best fu fu' : Nat) (far : Int32) (κ : Nat → g_S) (σ : r_S) (h : q_H), k + m = 4 ^ N → m < fu → m < fu' → best < 256 → z_q b κ0 κ h0 h → z_k σ0 σ → r_A σ 20 = r_A σ0 20 → r_A σ 23 = r_A σ0 23 → r_I σ 21 = r_I σ0 21 → 1 ≤ k →
    ∃ r h' κ' σ', m_X8_bestRow_9 fu h (b + 130) (nI p) (nI N) (nI wh) (nI best) far (nI k) = some (r, h') ∧ z_q b κ0 κ' h0 h' ∧ t_X12_row_48 fu' σ (nI p) (nI N) (nI wh) (nI best) far (nI k) = some (r, σ') ∧ z_k σ0 σ' ∧ r_A σ' 20 = r_A σ0 20 ∧ r_A σ' 23 = r_A σ0 23 ∧ r_I σ' 21 = r_I σ0 21 := by
  have h4 : 4 ^ N ≤ 256 := by
    have : 4 ^ N ≤ 4 ^ 4 := Nat.pow_le_pow_right (by decide) (by omega)
    exact this
  intro m
  induction m with
  | zero =>
    intro k best fu fu' far κ σ h hk hf hf' hb Q K h20 h23 h21 hk1
    obtain ⟨fu, rfl⟩ := Nat.exists_eq_succ_of_ne_zero (show fu ≠ 0 by omega)
    obtain ⟨fu', rfl⟩ := Nat.exists_eq_succ_of_ne_zero (show fu' ≠ 0 by omega)
    by_cases c0 : wh = 0
    · subst c0
      refine ⟨far + 100, h, κ, σ, ?_, Q, ?_, K, h20, h23, h21⟩
      · rw [m_X8_bestRow_9, z_row4 N hN, if_pos (nI_le (by omega) (by omega)), if_pos (by decide)]
      · rw [t_X12_row_48, z_row4 N hN, if_pos (nI_le (by omega) (by omega)), if_pos (by decide)]
    · obtain ⟨e, he, e1, e2, e3⟩ := z_rowE N hN (wh - 1) (by omega) best hb
      rw [show wh - 1 + 1 = wh by omega] at e1
      have hw0 : ¬ nI wh = (0 : Int32) := nI_ne0 (by omega) (by omega)
      refine ⟨nI e, h, κ, σ, ?_, Q, ?_, K, h20, h23, h21⟩
      · rw [m_X8_bestRow_9, z_row4 N hN, if_pos (nI_le (by omega) (by omega)), if_neg hw0]
        unfold m_X8_effortIn
        rw [Option.bind_some, e1]
      · rw [t_X12_row_48, z_row4 N hN, if_pos (nI_le (by omega) (by omega)), if_neg hw0, if_neg (nI_nlt (show wh ≤ N by omega) (by omega))]
        unfold m_X12_placeOfFour
        rw [Option.bind_some, show nI wh - 1 = nI (wh - 1) from pk_sub (b := 1) (by omega), if_neg e3, e2]
  | succ m ih =>
    intro k best fu fu' far κ σ h hk hf hf' hb Q K h20 h23 h21 hk1
    obtain ⟨fu, rfl⟩ := Nat.exists_eq_succ_of_ne_zero (show fu ≠ 0 by omega)
    obtain ⟨fu', rfl⟩ := Nat.exists_eq_succ_of_ne_zero (show fu' ≠ 0 by omega)
    obtain ⟨r1, h1, κ1, σ1, q1, q2, q3, q4, q5, q6, q7⟩ := z_far X hp hN (show k < 256 by omega) Q K h20 h23 h21
    have hb0 : ¬ nI best < 0 := nI_pos (by omega)
    have hk0 : ¬ nI k = (0 : Int32) := nI_ne0 (by omega) (by omega)
    by_cases cc : r1 ≤ far
    · obtain ⟨r, h', κ', σ', a1, a2, a3, a4⟩ := ih (k + 1) best fu fu' far κ1 σ1 h1 (by omega) (by omega) (by omega) hb q2 q4 q5 q6 q7 (by omega)
      refine ⟨r, h', κ', σ', ?_, a2, ?_, a4⟩
      · rw [m_X8_bestRow_9, z_row4 N hN, if_neg (nI_ge (show k < 4 ^ N by omega) (by omega)), Wca8 Q.1, q1, Option.bind_some]
        try dsimp only
        rw [if_neg hk0, if_pos cc, m_X8_bestRow_49, nI_1]
        exact a1
      · rw [t_X12_row_48, z_row4 N hN, if_neg (nI_ge (show k < 4 ^ N by omega) (by omega)), q3, Option.bind_some]
        try dsimp only
        rw [if_neg hb0, if_neg (fun e => Int32.not_le.mpr e cc), t_X12_row_91, nI_1]
        exact a3
    · obtain ⟨r, h', κ', σ', a1, a2, a3, a4⟩ := ih (k + 1) k fu fu' r1 κ1 σ1 h1 (by omega) (by omega) (by omega) (by omega) q2 q4 q5 q6 q7 (by omega)
      refine ⟨r, h', κ', σ', ?_, a2, ?_, a4⟩
      · rw [m_X8_bestRow_9, z_row4 N hN, if_neg (nI_ge (show k < 4 ^ N by omega) (by omega)), Wca8 Q.1, q1, Option.bind_some]
        try dsimp only
        rw [if_neg hk0, if_neg cc, m_X8_bestRow_41, m_X8_bestRow_49, nI_1]
        exact a1
      · rw [t_X12_row_48, z_row4 N hN, if_neg (nI_ge (show k < 4 ^ N by omega) (by omega)), q3, Option.bind_some]
        try dsimp only
        rw [if_neg hb0, if_pos (Int32.not_le.mp cc), t_X12_row_83, t_X12_row_91, nI_1]
        exact a3
theorem z_row {b n po c : Nat} {o : g_S} {κ : Nat → g_S} {σ : r_S} {h : q_H} (X : z_X b n po c o κ σ h) {p N wh : Nat} (hp : p < n) (hN1 : 1 ≤ N) (hN : N < 5) (hwh : wh ≤ N) :
    ∃ r h' κ' σ', m_X8_bestRow h (b + 130) (nI p) (nI N) (nI wh) = some (r, h') ∧ z_q b κ κ' h h' ∧ (t_X12_keeps σ).bind (fun σ8 => t_X12_row_48 q_fu σ8 (nI p) (nI N) (nI wh) (-1) (-1) 0) = some (r, σ') ∧ z_k σ σ' ∧ r_A σ' 20 = r_A σ 20 ∧ r_A σ' 23 = r_A σ 23 ∧ r_I σ' 21 = r_I σ 21 := by
  obtain ⟨σ1, k1, k2, k3, k4, k5, k6⟩ := z_keeps σ
  obtain ⟨r1, h1, κ1, σ2, q1, q2, q3, q4, q5, q6, q7⟩ := z_far X hp hN (show 0 < 256 by omega) (z_q_refl X.1) k2 k3 k4 k5
  have h4 : 1 ≤ 4 ^ N ∧ 4 ^ N ≤ 256 := by
    have a1 : 4 ^ N ≤ 4 ^ 4 := Nat.pow_le_pow_right (by decide) (by omega)
    have a2 : 0 < 4 ^ N := Nat.pow_pos (by decide)
    exact ⟨a2, a1⟩
  obtain ⟨r, h', κ', σ', a1, a2, a3, a4⟩ := z_rowL X hp hN1 hN hwh (4 ^ N - 1) 1 0 4999 4999 r1 κ1 σ2 h1 (by omega) (by omega) (by omega) (by omega) q2 q4 q5 q6 q7 (by omega)
  refine ⟨r, h', κ', σ', ?_, a2, ?_, a4⟩
  · unfold m_X8_bestRow
    rw [show q_fu = 4999 + 1 from rfl, m_X8_bestRow_9, z_row4 N hN, if_neg (show ¬ nI (4 ^ N) ≤ (0 : Int32) from nI_ge (a := 0) (by omega) (by omega)), Wca8 X.1, show m_X8_farByRow h (b + 130) (nI p) (nI N) 0 = _ from q1, Option.bind_some]
    try dsimp only
    rw [if_pos rfl, m_X8_bestRow_41, m_X8_bestRow_49]
    exact a1
  · rw [k1, Option.bind_some, show q_fu = 4999 + 1 from rfl, t_X12_row_48, z_row4 N hN, if_neg (show ¬ nI (4 ^ N) ≤ (0 : Int32) from nI_ge (a := 0) (by omega) (by omega)), show t_X12_farBy σ1 (nI p) (nI N) 0 = _ from q3, Option.bind_some]
    try dsimp only
    rw [if_pos (by decide), t_X12_row_83, t_X12_row_91]
    exact a3
