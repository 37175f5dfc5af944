/-! ===== L3: OUT and TRADE ===== -/
theorem z_pull {b n po c : Nat} {o : g_S} {κ0 κ : Nat → g_S} {σ0 : r_S} {h0 h : q_H} (X : z_X b n po c o κ0 σ0 h0) (Q : z_q b κ0 κ h0 h) : (q_gn h (b + 13) 0 0 = some po) ∧ q_gi h po 4 3 = some (nI n) := ⟨Wgr Q.1 (z_Xpo X Q), (gi4_3 (z_Xg4 X Q)).trans (by rw [X.2.2.2.2.1.1])⟩
theorem z_outL {b n po c : Nat} {o : g_S} {κ0 : Nat → g_S} {σ0 : r_S} {h0 : q_H} (X : z_X b n po c o κ0 σ0 h0) {N : Nat} (hN : N ≤ 40) (wh : Int32) : ∀ (m k fu fu' : Nat) (best near : Int32) (κ : Nat → g_S) (σ : r_S) (h : q_H), k + m = n → m < fu → m < fu' → z_q b κ0 κ h0 h → z_k σ0 σ → r_A σ 20 = r_A σ0 20 → r_A σ 23 = r_A σ0 23 → r_I σ 21 = r_I σ0 21 →
    ∃ r h' κ' σ', m_X8_bestIdler_8 fu h (b + 130) (nI N) wh near best (nI k) = some (r, h') ∧ z_q b κ0 κ' h0 h' ∧ t_X12_out_48 fu' σ (nI N) wh best near (nI k) = some (r, σ') ∧ z_k σ0 σ' ∧ r_A σ' 20 = r_A σ0 20 ∧ r_A σ' 23 = r_A σ0 23 ∧ r_I σ' 21 = r_I σ0 21 := by
  have hn : n ≤ 8 := X.2.2.2.2.2.1.1
  have h3 : r_A σ0 20 3 = nI n := X.2.2.2.2.2.1.2.2.1
  intro m
  induction m with
  | zero =>
    intro k fu fu' best near κ σ h hk hf hf' Q K h20 h23 h21
    obtain ⟨fu, rfl⟩ := Nat.exists_eq_succ_of_ne_zero (show fu ≠ 0 by omega)
    obtain ⟨fu', rfl⟩ := Nat.exists_eq_succ_of_ne_zero (show fu' ≠ 0 by omega)
    obtain ⟨p1, p2⟩ := z_pull X Q
    refine ⟨if wh = 0 then best else near, h, κ, σ, ?_, Q, ?_, K, h20, h23, h21⟩
    · rw [m_X8_bestIdler_8, We0 Q.1, Option.bind_some, p1, Option.bind_some, p2, Option.bind_some, if_pos (nI_le (by omega) (by omega))]
      split <;> rfl
    · rw [t_X12_out_48, h20, z_a3, Option.bind_some, h3, if_pos (nI_le (by omega) (by omega))]
      split <;> rfl
  | succ m ih =>
    intro k fu fu' best near κ σ h hk hf hf' Q K h20 h23 h21
    obtain ⟨fu, rfl⟩ := Nat.exists_eq_succ_of_ne_zero (show fu ≠ 0 by omega)
    obtain ⟨fu', rfl⟩ := Nat.exists_eq_succ_of_ne_zero (show fu' ≠ 0 by omega)
    obtain ⟨p1, p2⟩ := z_pull X Q
    obtain ⟨h1, κ1, s1, R1, s3⟩ := z_run_start X Q K h20 h23 h21
    obtain ⟨h2, κ2, f1, R2, f3⟩ := z_fix (p := k) (e := 0) R1 (by omega) (by omega)
    obtain ⟨h3', κ3, σ3, g1, Q3, g3, g4, g5, g6, g7, g8⟩ := z_near X R2 (show N ≤ 200 by omega)
    rw [z_rA] at g7
    have e23 : upd (r_A σ3 23) k (-1) = r_A σ0 23 := by
      funext q
      by_cases c1 : q = k
      · rw [c1, pk_us, X.2.2.2.2.2.2.2.2.2.2.2 k (by omega)]
      · rw [pk_un c1, g7, pk_un c1, h23]
    have K3 : z_k σ0 (r_sa σ3 23 (upd (r_A σ3 23) k (-1))) := ⟨g5.1, fun k a c' b' => (z_rAn c').trans (g5.2.1 k a c' b'), fun j hj => by rw [z_rAn (by decide)]; exact g5.2.2.1 j hj, fun j hj => by rw [z_rAn (by decide)]; exact g5.2.2.2 j hj⟩
    have hm1 : ¬ nI k = (-1 : Int32) := fun e => nI_pos (n := k) (by omega) (by rw [e]; decide)
    have eA : ∀ (z : Option (Int32 × q_H)), (if near ≤ z_abs (g_I (κ3 11) 0) then m_X8_bestIdler_8 fu h3' (b + 130) (nI N) wh near best (nI (k + 1)) else m_X8_bestIdler_8 fu h3' (b + 130) (nI N) wh (z_abs (g_I (κ3 11) 0)) (nI k) (nI (k + 1))) = z → m_X8_bestIdler_8 (fu + 1) h (b + 130) (nI N) wh near best (nI k) = z := by
      intro z hz
      rw [m_X8_bestIdler_8, We0 Q.1, Option.bind_some, p1, Option.bind_some, p2, Option.bind_some, if_neg (nI_ge (show k < n by omega) (by omega)), Wca8 Q.1, s1, Option.bind_some, if_neg hm1, We2 R1.1.1, Option.bind_some, ca1 (Ww10 R1.1.1), show m_X1_fix h1 (b + 124) (nI k) 0 = _ from f1, Option.bind_some, m_X8_bestIdler_43, We2 R2.1.1, Option.bind_some, We3 R2.1.1, Option.bind_some, ca1 (Ww10 R2.1.1), g1, Option.bind_some, We3 Q3.1, Option.bind_some, gi10_0 (Ww11 Q3.1), Option.bind_some, if_neg hm1, m_X8_bestIdler_79, m_X8_bestIdler_86, m_X8_bestIdler_86, nI_1]
      exact hz
    have eB : t_X12_out_48 (fu' + 1) σ (nI N) wh best near (nI k) = if z_abs (g_I (κ3 11) 0) < near then t_X12_out_48 fu' (r_sa σ3 23 (upd (r_A σ3 23) k (-1))) (nI N) wh (nI k) (z_abs (g_I (κ3 11) 0)) (nI (k + 1)) else t_X12_out_48 fu' (r_sa σ3 23 (upd (r_A σ3 23) k (-1))) (nI N) wh best near (nI (k + 1)) := by
      rw [t_X12_out_48, h20, z_a3, Option.bind_some, h3, if_neg (nI_ge (show k < n by omega) (by omega)), t_si_in (by omega) (by decide), Option.bind_some, show t_X12_nearIn (r_sa σ 23 (upd (r_A σ 23) k 0)) (nI N) = _ from g4, Option.bind_some]
      try dsimp only
      rw [t_si_in (by omega) (by decide), Option.bind_some, t_X12_out_99, t_X12_out_99, nI_1]
    by_cases cc : near ≤ z_abs (g_I (κ3 11) 0)
    · obtain ⟨r, h', κ', σ', a1, a2, a3, a4⟩ := ih (k + 1) fu fu' best near κ3 (r_sa σ3 23 (upd (r_A σ3 23) k (-1))) h3' (by omega) (by omega) (by omega) Q3 K3 (by rw [z_rAn (by decide)]; exact g6) (by rw [z_rA]; exact e23) (g8.trans h21)
      refine ⟨r, h', κ', σ', eA _ (by rw [if_pos cc]; exact a1), a2, ?_, a4⟩
      rw [eB, if_neg (fun e => Int32.not_le.mpr e cc)]
      exact a3
    · obtain ⟨r, h', κ', σ', a1, a2, a3, a4⟩ := ih (k + 1) fu fu' (nI k) (z_abs (g_I (κ3 11) 0)) κ3 (r_sa σ3 23 (upd (r_A σ3 23) k (-1))) h3' (by omega) (by omega) (by omega) Q3 K3 (by rw [z_rAn (by decide)]; exact g6) (by rw [z_rA]; exact e23) (g8.trans h21)
      refine ⟨r, h', κ', σ', eA _ (by rw [if_neg cc]; exact a1), a2, ?_, a4⟩
      rw [eB, if_pos (Int32.not_le.mp cc)]
      exact a3
theorem z_out {b n po c : Nat} {o : g_S} {κ : Nat → g_S} {σ : r_S} {h : q_H} (X : z_X b n po c o κ σ h) {N : Nat} (hN : N ≤ 40) (wh : Int32) :
    ∃ r h' κ' σ', m_X8_bestIdler h (b + 130) (nI N) wh = some (r, h') ∧ z_q b κ κ' h h' ∧ (t_X12_keeps σ).bind (fun σ8 => (t_X12_nearIn σ8 (nI N)).bind fun (r9, σ10) => t_X12_out_48 q_fu σ10 (nI N) wh (-1) r9 0) = some (r, σ') ∧ z_k σ σ' ∧ r_A σ' 20 = r_A σ 20 ∧ r_A σ' 23 = r_A σ 23 ∧ r_I σ' 21 = r_I σ 21 := by
  have hn : n ≤ 8 := X.2.2.2.2.2.1.1
  obtain ⟨σ1, k1, k2, k3, k4, k5, k6⟩ := z_keeps σ
  have Q := z_q_refl X.1
  obtain ⟨p1, p2⟩ := z_pull X Q
  obtain ⟨h1, κ1, s1, R1, s3⟩ := z_run_start X Q k2 k3 k4 k5
  obtain ⟨h2, κ2, σ2, g1, Q2, g3, g4, g5, g6, g7, g8⟩ := z_near X R1 (show N ≤ 200 by omega)
  obtain ⟨r, h', κ', σ', a1, a2, a3, a4⟩ := z_outL X hN wh n 0 4999 q_fu (-1) (z_abs (g_I (κ2 11) 0)) κ2 σ2 h2 (by omega) (by omega) (by show n < 5000; omega) Q2 g5 g6 (g7.trans k4) (g8.trans k5)
  refine ⟨r, h', κ', σ', ?_, a2, ?_, a4⟩
  · unfold m_X8_bestIdler
    rw [show q_fu = 4999 + 1 from rfl, m_X8_bestIdler_8, We0 Q.1, Option.bind_some, p1, Option.bind_some, p2, Option.bind_some, if_neg (fun e => by
      have e2 := Int32.le_iff_toInt_le.mp e
      rw [nI_toInt (by omega), show (-1 : Int32).toInt = -1 by decide] at e2
      omega), Wca8 Q.1, s1, Option.bind_some, if_pos rfl, m_X8_bestIdler_43, We2 R1.1.1, Option.bind_some, We3 R1.1.1, Option.bind_some, ca1 (Ww10 R1.1.1), g1, Option.bind_some, We3 Q2.1, Option.bind_some, gi10_0 (Ww11 Q2.1), Option.bind_some, if_pos rfl, m_X8_bestIdler_79, m_X8_bestIdler_86]
    exact a1
  · rw [k1, Option.bind_some, g4, Option.bind_some]
    exact a3
/-! TRADE -/
theorem z_c_rem (P : Nat → Bool) {a n : Nat} (ha : a < n) : z_c P n = z_c (fun q => P q && (q != a)) n + (if P a then 1 else 0) := by
  by_cases h : P a = true
  · rw [if_pos h, z_c_less P h ha]
  · rw [if_neg h, Nat.add_zero]
    refine z_c_ext (fun q hq => ?_)
    by_cases e : q = a
    · rw [e, Bool.eq_false_iff.mpr h]
      rfl
    · simp [e]
def z_pi (a d p : Nat) : Nat := if p = a then d else if p = d then a else p
theorem z_pi_lt {a d p n : Nat} (ha : a < n) (hd : d < n) (hp : p < n) : z_pi a d p < n := by
  unfold z_pi
  split
  · exact hd
  · split
    · exact ha
    · exact hp
theorem z_pi_pi {a d : Nat} (h : a ≠ d) (p : Nat) : z_pi a d (z_pi a d p) = p := by
  unfold z_pi
  by_cases h1 : p = a
  · rw [if_pos h1, if_neg (Ne.symm h), if_pos rfl, h1]
  · rw [if_neg h1]
    by_cases h2 : p = d
    · rw [if_pos h2, if_pos rfl, h2]
    · rw [if_neg h2, if_neg h1, if_neg h2]
theorem z_P_swap {s s' : Nat → Int32} {n a d : Nat} (ha : a < n) (hd : d < n) (had : a ≠ d) (h : ∀ p, p < n → s' (12 + 5 * p) = s (12 + 5 * z_pi a d p) ∧ s' (13 + 5 * p) = s (13 + 5 * z_pi a d p)) (hP : z_P s n) : z_P s' n := by
  have hc : ∀ c, z_c (z_on s' c) n = z_c (z_on s c) n := by
    intro c
    have e1 : z_on s' c a = z_on s c d := by
      unfold z_on
      rw [(h a ha).1, z_pi, if_pos rfl]
    have e2 : z_on s' c d = z_on s c a := by
      unfold z_on
      rw [(h d hd).1, z_pi, if_neg (Ne.symm had), if_pos rfl]
    rw [z_c_rem (z_on s' c) ha, z_c_rem (fun q => z_on s' c q && (q != a)) hd, z_c_rem (z_on s c) ha, z_c_rem (fun q => z_on s c q && (q != a)) hd]
    have hda : (d != a) = true := by simp [Ne.symm had]
    simp only [hda, Bool.and_true]
    rw [e1, e2, z_c_ext (P := fun q => (z_on s' c q && (q != a)) && (q != d)) (Q := fun q => (z_on s c q && (q != a)) && (q != d)) (fun q hq => ?_)]
    · omega
    · by_cases h1 : q = a
      · simp [h1]
      · by_cases h2 : q = d
        · simp [h2]
        · unfold z_on
          rw [(h q hq).1, z_pi, if_neg h1, if_neg h2]
  obtain ⟨p1, p2, p3⟩ := hP
  refine ⟨fun p hp c hcc e => ?_, fun c hcc j hj => ?_, fun p q hp hq e1 e2 => ?_⟩
  · rw [hc, (h p hp).2]
    rw [(h p hp).1] at e
    exact p1 _ (z_pi_lt ha hd hp) c hcc e
  · rw [hc] at hj
    obtain ⟨p, q1, q2, q3⟩ := p2 c hcc j hj
    refine ⟨z_pi a d p, z_pi_lt ha hd q1, ?_, ?_⟩
    · rw [(h _ (z_pi_lt ha hd q1)).1, z_pi_pi had]; exact q2
    · rw [(h _ (z_pi_lt ha hd q1)).2, z_pi_pi had]; exact q3
  · rw [(h p hp).1, (h q hq).1] at e1
    rw [(h p hp).2, (h q hq).2] at e2
    have := p3 _ _ (z_pi_lt ha hd hp) (z_pi_lt ha hd hq) e1 e2
    rw [← z_pi_pi had p, this, z_pi_pi had]
/-- two change places, on both sides -/
theorem z_swap {b n po c a d : Nat} {o : g_S} {κ0 κ : Nat → g_S} {σ0 σ : r_S} {h0 h : q_H} (X : z_X b n po c o κ0 σ0 h0) (R : z_run b n po κ0 κ σ0 σ h0 h) (ha : a < n) (hd : d < n) (had : a ≠ d) : ∃ h' κ' σ', m_X10_changePlaces h (b + 131) (nI a) (nI d) = some h' ∧ z_run b n po κ0 κ' σ0 σ' h0 h' ∧ (∀ k, k ≠ 11 → κ' k = κ k) ∧ t_X12_trades σ (nI a) (nI d) = some σ' ∧ r_A σ' 23 = r_A σ 23 ∧ r_I σ' 21 = r_I σ 21 := by
  have hn : n ≤ 8 := X.2.2.2.2.2.1.1
  obtain ⟨Q, K, ht, hV, hY0, hru, hpl⟩ := R
  obtain ⟨W, hk, hh⟩ := Q
  obtain ⟨t0, t1, t2, tA⟩ := ht
  obtain ⟨va1, va2, va3, va4⟩ := tA a ha
  obtain ⟨vd1, vd2, vd3, vd4⟩ := tA d hd
  -- the class
  obtain ⟨t', et, ei, e3, e4, e5, e6⟩ : ∃ t', t_X10_changePlaces (κ 11) (nI a) (nI d) = some t' ∧ g_I t' = g_I (κ 11) ∧ (∀ p, g_A t' 3 p = g_A (κ 11) 3 (z_pi a d p)) ∧ (∀ p, g_A t' 4 p = g_A (κ 11) 4 (z_pi a d p)) ∧ g_A t' 5 = g_A (κ 11) 5 ∧ g_A t' 6 = g_A (κ 11) 6 := by
    unfold t_X10_changePlaces
    rw [t_ai_in (by omega) (by decide), Option.bind_some, t_ai_in (by omega) (by decide), Option.bind_some, t_ai_in (by omega) (by decide), Option.bind_some, u_si_in (by omega) (by decide), Option.bind_some, z_sa_of (by decide), t_ai_in (by omega) (by decide), Option.bind_some, u_si_in (by omega) (by decide), Option.bind_some, u_si_in (by omega) (by decide), Option.bind_some, u_si_in (by omega) (by decide), Option.bind_some]
    refine ⟨_, rfl, rfl, fun p => ?_, fun p => ?_, ?_, ?_⟩
    · rw [z_sa_of (by decide), z_sa_at, z_sa_of (by decide), z_sa_at]
      unfold z_pi
      by_cases h2 : p = d
      · rw [h2, pk_us, if_neg (Ne.symm had), if_pos rfl]
      · rw [pk_un h2]
        by_cases h1 : p = a
        · rw [h1, pk_us, if_pos rfl]
        · rw [pk_un h1, if_neg h1, if_neg h2]
    · rw [z_sa_at, z_sa_of (by decide), z_sa_at, z_sa_of (by decide)]
      unfold z_pi
      by_cases h2 : p = d
      · rw [h2, pk_us, if_neg (Ne.symm had), if_pos rfl]
      · rw [pk_un h2]
        by_cases h1 : p = a
        · rw [h1, pk_us, if_pos rfl]
        · rw [pk_un h1, if_neg h1, if_neg h2]
    · rw [z_sa_of (by decide), z_sa_of (by decide), z_sa_of (by decide), z_sa_of (by decide)]
    · rw [z_sa_of (by decide), z_sa_of (by decide), z_sa_of (by decide), z_sa_of (by decide)]
  obtain ⟨h', d1, d2, d3⟩ := l_X10_changePlaces h (b + 131) (κ 11) (nI a) (nI d) et (Ww11 W)
  -- the reference
  obtain ⟨s', es, u1, u2⟩ : ∃ s', t_X12_trades σ (nI a) (nI d) = some (r_sa σ 20 s') ∧ (∀ p, p < n → s' (12 + 5 * p) = r_A σ 20 (12 + 5 * z_pi a d p) ∧ s' (13 + 5 * p) = r_A σ 20 (13 + 5 * z_pi a d p)) ∧ (∀ j, (∀ p, p < n → j ≠ 12 + 5 * p ∧ j ≠ 13 + 5 * p) → s' j = r_A σ 20 j) := by
    have a0 : ∀ (p : Nat), (12 : Int32) + 5 * nI p + 0 = nI (12 + 5 * p) := fun p => by rw [Int32.add_zero, z_i0]
    have e : t_X12_trades σ (nI a) (nI d) = some (r_sa σ 20 (upd (upd (upd (upd (r_A σ 20) (12 + 5 * a) (r_A σ 20 (12 + 5 * d))) (12 + 5 * d) (r_A σ 20 (12 + 5 * a))) (13 + 5 * a) (r_A σ 20 (13 + 5 * d))) (13 + 5 * d) (r_A σ 20 (13 + 5 * a)))) := by
      unfold t_X12_trades
      rw [show q_fu = 4997 + 1 + 1 + 1 from rfl, t_X12_trades_2, if_neg (by decide), a0, a0, t_ai_in (by omega) (by decide), Option.bind_some, t_ai_in (by omega) (by decide), Option.bind_some, t_si_in (by omega) (by decide), Option.bind_some, z_s20 (by omega), Option.bind_some, t_X12_trades_2, if_neg (by decide), show (0 : Int32) + 1 = 1 from rfl, z_i1, z_i1, z_rA, t_ai_in (by omega) (by decide), Option.bind_some, t_ai_in (by omega) (by decide), Option.bind_some, z_s20 (by omega), Option.bind_some, z_s20 (by omega), Option.bind_some, t_X12_trades_2, if_pos (by decide)]
      rw [pk_un (show 13 + 5 * a ≠ 12 + 5 * d by omega), pk_un (show 13 + 5 * a ≠ 12 + 5 * a by omega), pk_un (show 13 + 5 * d ≠ 12 + 5 * d by omega), pk_un (show 13 + 5 * d ≠ 12 + 5 * a by omega)]
    refine ⟨_, e, fun p hp => ⟨?_, ?_⟩, fun j hj => ?_⟩
    · unfold z_pi
      rw [pk_un (by omega), pk_un (by omega)]
      by_cases h2 : p = d
      · rw [h2, pk_us, if_neg (Ne.symm had), if_pos rfl]
      · rw [pk_un (by omega)]
        by_cases h1 : p = a
        · rw [h1, pk_us, if_pos rfl]
        · rw [pk_un (by omega), if_neg h1, if_neg h2]
    · unfold z_pi
      by_cases h2 : p = d
      · rw [h2, pk_us, if_neg (Ne.symm had), if_pos rfl]
      · rw [pk_un (by omega)]
        by_cases h1 : p = a
        · rw [h1, pk_us, if_pos rfl]
        · rw [pk_un (by omega), pk_un (by omega), pk_un (by omega), if_neg h1, if_neg h2]
    · have ja := hj a ha
      have jd := hj d hd
      rw [pk_un jd.2, pk_un ja.2, pk_un jd.1, pk_un ja.1]
  refine ⟨h', va_up κ 11 t', r_sa σ 20 s', d1, ⟨⟨W_11 W d2 d3, fun k hkk => (va_up_of (by omega)).trans (hk k hkk), fun x hx => (d3 x (by unfold f10; omega)).trans (hh x hx)⟩, ⟨K.1, fun k x1 x2 x3 => (z_rAn x1).trans (K.2.1 k x1 x2 x3), fun j hj => by rw [z_rAn (by decide)]; exact K.2.2.1 j hj, fun j hj => by rw [z_rA, u2 j (fun p hp => by omega)]; exact K.2.2.2 j hj⟩, ?_, ?_, ?_, ?_, ?_⟩, fun k hkk => va_up_of hkk, es, z_rAn (by decide), rfl⟩
  · rw [va_up_at, z_rA]
    refine ⟨?_, ?_, ?_, fun p hp => ?_⟩
    · rw [ei, u2 11 (fun p hp => by omega)]; exact t0
    · rw [ei, u2 10 (fun p hp => by omega)]; exact t1
    · rw [ei, t2, z_m_ext (fun p hp => ?_)]
      unfold z_up
      rw [u2 (15 + 5 * p) (fun q hq => by omega)]
    · have hpp := z_pi_lt ha hd hp
      rw [e3, e4, e5, e6, (u1 p hp).1, (u1 p hp).2, u2 (14 + 5 * p) (fun q hq => by omega), u2 (16 + 5 * p) (fun q hq => by omega)]
      exact ⟨(tA _ hpp).1, (tA _ hpp).2.1, (tA p hp).2.2.1, (tA p hp).2.2.2⟩
  · rw [z_rA]
    obtain ⟨v1, v2, v3⟩ := hV
    refine ⟨?_, fun p hp => ?_, z_P_swap ha hd had u1 v3⟩
    · rw [u2 11 (fun p hp => by omega)]; exact v1
    · rw [(u1 p hp).1, u2 (14 + 5 * p) (fun q hq => by omega), u2 (16 + 5 * p) (fun q hq => by omega)]
      exact ⟨(v2 _ (z_pi_lt ha hd hp)).1, (v2 p hp).2.1, (v2 p hp).2.2⟩
  · rw [va_up_of (by decide)]; exact hY0
  · rw [va_up_of (by decide)]
    exact z_ru_fr hru (fun x hx => d3 x (by unfold f10; omega)) (z_rAn (by decide)) (z_rAn (by decide)) (z_rAn (by decide))
  · intro q hq
    rw [va_up_of (by decide), z_rAn (by decide)]
    exact hpl q hq
