/-! ===== L3: RULED: by which RULES all NOTES are so ===== -/
def z_kf (σ0 σ : r_S) : Prop := (∀ k, k ≠ 18 → k ≠ 21 → r_I σ k = r_I σ0 k) ∧ (∀ k, k ≠ 20 → k ≠ 24 → k ≠ 27 → k ≠ 30 → k ≠ 31 → r_A σ k = r_A σ0 k) ∧ (∀ j, j < 42 → r_A σ 27 j = r_A σ0 20 (10 + j)) ∧ (∀ j, (j < 10 ∨ 52 ≤ j) → r_A σ 20 j = r_A σ0 20 j)
/-- what the reference found of number r (0: none, else RULE r - 1) -/
def z_ft (σ0 σf : r_S) (r : Nat) (x : Int32) : Prop := ∃ σs σ1 σ2, r_I σs 21 = nI r - 1 ∧ r_A σs 3 = r_A σ0 3 ∧ r_A σs 5 = r_A σ0 5 ∧ r_A σs 6 = r_A σ0 6 ∧ r_A σs 23 = r_A σ0 23 ∧ (∀ j, (j < 10 ∨ 52 ≤ j) → r_A σs 20 j = r_A σ0 20 j) ∧ t_X12_begins σs = some σ1 ∧ t_X12_areAllSo σ1 (nI r) = some (x, σ2) ∧ (x = 0 ∨ x = 1) ∧ r_A σf 30 r = x ∧ ∀ k, k < 61 → r_A σf 31 (61 * r + k) = r_A σ2 31 (61 * r + k)
theorem z_rsiI (σ : r_S) (k : Nat) (v : Int32) : r_I (r_si σ k v) k = v := by
  show va_up σ.1 k v k = v
  exact va_up_at _ _ _
theorem z_rsiIn {σ : r_S} {k j : Nat} {v : Int32} (h : j ≠ k) : r_I (r_si σ k v) j = r_I σ j := by
  show va_up σ.1 k v j = σ.1 j
  exact va_up_of h
theorem z_nar01 {x : Int32} (h : x = 0 ∨ x = 1) : vp_nar .boolean x = x := by
  rcases h with rfl | rfl <;> decide
theorem z_m1r {r : Nat} (hr : 0 < r) : nI r - 1 = nI (r - 1) := pk_sub (b := 1) hr
theorem z_frc {c r : Nat} (h : r ≤ c) : nI r - 1 = -1 ∨ ∃ i, i < c ∧ nI r - 1 = nI i := by
  by_cases e : r = 0
  · rw [e]; exact Or.inl (by decide)
  · exact Or.inr ⟨r - 1, by omega, z_m1r (by omega)⟩
theorem z_fitL {b n po c nc : Nat} {o : g_S} {κ0 : Nat → g_S} {σ0 : r_S} {h0 : q_H} (X : z_X b n po c o κ0 σ0 h0) (hN : z_nt (κ0 6) (r_A σ0 20) nc) : ∀ (m r fu : Nat) (σ : r_S), r + m = c + 1 → m < fu → z_kf σ0 σ → ∃ σf, t_X12_fillsFits_11 fu σ (r_I σ0 21) (nI r) = some σf ∧ z_k σ0 σf ∧ r_A σf 20 = r_A σ0 20 ∧ r_A σf 23 = r_A σ0 23 ∧ r_I σf 21 = r_I σ0 21 ∧ (∀ i, r ≤ i → i ≤ c → ∃ x, z_ft σ0 σf i x) ∧ (∀ i, i < r → r_A σf 30 i = r_A σ 30 i) ∧ (∀ j, j < 61 * r → r_A σf 31 j = r_A σ 31 j) := by
  have hc6 : c ≤ 6 := (X.2.2.2.2.2.2.2.2.2.1).1
  have hc : r_I σ0 2 = nI c := (X.2.2.2.2.2.2.2.2.2.1).2.2.1
  intro m
  induction m with
  | zero =>
    intro r fu σ hr hf K
    obtain ⟨fu, rfl⟩ := Nat.exists_eq_succ_of_ne_zero (show fu ≠ 0 by omega)
    have K2 : z_k σ0 (r_si σ 21 (r_I σ0 21)) := ⟨fun k h1 h2 => (va_up_of h2).trans (K.1 k h1 h2), fun k h1 h2 h3 => K.2.1 k h1 (by omega) (by omega) (by omega) (by omega), K.2.2.1, K.2.2.2⟩
    obtain ⟨l1, l2⟩ := z_lays K2
    refine ⟨_, ?_, l2, z_rA _ _ _, (z_rAn (by decide)).trans (K.2.1 23 (by decide) (by decide) (by decide) (by decide) (by decide)), (z_saI _ _ _ _).trans (z_rsiI _ _ _), fun i h1 h2 => by omega, fun i _ => by rw [z_rAn (by decide)]; rfl, fun j _ => by rw [z_rAn (by decide)]; rfl⟩
    rw [t_X12_fillsFits_11]
    try dsimp only
    rw [K.1 2 (by decide) (by decide), hc, if_pos (nI_lt (show c < r by omega) (by omega)), l1]
    rfl
  | succ m ih =>
    intro r fu σ hr hf K
    obtain ⟨fu, rfl⟩ := Nat.exists_eq_succ_of_ne_zero (show fu ≠ 0 by omega)
    have Q0 := z_q_refl X.1
    have hsame : ∀ j, j < 10 ∨ 52 ≤ j → r_A (r_si σ 21 (nI r - 1)) 20 j = r_A σ0 20 j := K.2.2.2
    have e3 : r_A (r_si σ 21 (nI r - 1)) 3 = r_A σ0 3 := K.2.1 3 (by decide) (by decide) (by decide) (by decide) (by decide)
    have e5 : r_A (r_si σ 21 (nI r - 1)) 5 = r_A σ0 5 := K.2.1 5 (by decide) (by decide) (by decide) (by decide) (by decide)
    have e6 : r_A (r_si σ 21 (nI r - 1)) 6 = r_A σ0 6 := K.2.1 6 (by decide) (by decide) (by decide) (by decide) (by decide)
    have e23 : r_A (r_si σ 21 (nI r - 1)) 23 = r_A σ0 23 := K.2.1 23 (by decide) (by decide) (by decide) (by decide) (by decide)
    have e21 : r_I (r_si σ 21 (nI r - 1)) 21 = nI r - 1 := z_rsiI _ _ _
    obtain ⟨ro, r1, r2⟩ := z_ruF (σ := r_si σ 21 (nI r - 1)) X Q0 e3 e5 e6 (z_frc (show r ≤ c by omega))
    obtain ⟨x, h', κ', σ1, σ2, a0, a1, a2, a3, a4, a5, a6⟩ := z_isn (r := r) (ro := ro) (σ := r_si σ 21 (nI r - 1)) X (by omega) hN Q0 (Or.inl X.2.2.1) X.2.2.2.1 (z_R_ext hsame X.2.2.2.2.2.1) (z_o_ext hsame X.2.2.2.2.1) (by rw [e21]; exact r2 po (Or.inl rfl)) (fun p hp => by rw [e23]; exact X.2.2.2.2.2.2.2.2.2.2.2 p hp) (fun j hj => hsame j (by omega))
    have K3 : z_kf σ0 (r_sa σ2 30 (upd (r_A σ2 30) r x)) := ⟨fun k h1 h2 => (a6.1 k h1).trans ((va_up_of h2).trans (K.1 k h1 h2)), fun k b1 b2 b3 b4 b5 => (z_rAn b4).trans ((a6.2.1 k b1 b2 b5).trans (K.2.1 k b1 b2 b3 b4 b5)), fun j hj => by rw [z_rAn (by decide), a6.2.1 27 (by decide) (by decide) (by decide)]; exact K.2.2.1 j hj, fun j hj => by rw [z_rAn (by decide)]; exact (a6.2.2.2.1 j hj).trans (hsame j hj)⟩
    obtain ⟨σf, q1, q2, q3, q4, q5, q6, q7, q8⟩ := ih (r + 1) fu (r_sa σ2 30 (upd (r_A σ2 30) r x)) (by omega) (by omega) K3
    rw [z_rA] at q7
    rw [z_rAn (show 31 ≠ 30 by decide)] at q8
    refine ⟨σf, ?_, q2, q3, q4, q5, fun i h1 h2 => ?_, fun i hi => ?_, fun j hj => ?_⟩
    · rw [t_X12_fillsFits_11]
      try dsimp only
      rw [K.1 2 (by decide) (by decide), hc, if_neg (nI_nlt (show r ≤ c by omega) (by omega)), a4, Option.bind_some, a5, Option.bind_some]
      try dsimp only
      rw [z_nar01 a0, t_si_in (by omega) (by decide), Option.bind_some, nI_1]
      exact q1
    · by_cases e : i = r
      · rw [e]
        exact ⟨x, r_si σ 21 (nI r - 1), σ1, σ2, e21, e3, e5, e6, e23, hsame, a4, a5, a0, by rw [q7 r (by omega), pk_us], fun k hk => by rw [q8 _ (by omega)]⟩
      · exact q6 i (by omega) h2
    · rw [q7 i (by omega), pk_un (by omega), a6.2.1 30 (by decide) (by decide) (by decide)]
      rfl
    · rw [q8 j (by omega), a6.2.2.2.2 j (by omega)]
      rfl
theorem z_fills {b n po c nc : Nat} {o : g_S} {κ0 : Nat → g_S} {σ0 : r_S} {h0 : q_H} (X : z_X b n po c o κ0 σ0 h0) (hN : z_nt (κ0 6) (r_A σ0 20) nc) : ∃ σf, t_X12_fillsFits σ0 = some σf ∧ z_k σ0 σf ∧ r_A σf 20 = r_A σ0 20 ∧ r_A σf 23 = r_A σ0 23 ∧ r_I σf 21 = r_I σ0 21 ∧ (∀ i, i ≤ c → ∃ x, z_ft σ0 σf i x) := by
  have hc6 : c ≤ 6 := (X.2.2.2.2.2.2.2.2.2.1).1
  obtain ⟨σ1, k1, k2, k3, k4, k5, k6⟩ := z_keeps σ0
  have K : z_kf σ0 σ1 := by
    obtain ⟨f, q1, -, -⟩ := z_keepsL (s := r_A σ0 20) 42 0 q_fu σ0 (by omega) (by show 42 < 5000; omega) rfl
    have e : σ1 = r_sa σ0 27 f := Option.some.inj (k1.symm.trans q1)
    exact ⟨fun k h1 h2 => k2.1 k h1 h2, fun k a1 a2 a3 a4 a5 => by rw [e]; exact z_rAn a3, k2.2.2.1, k2.2.2.2⟩
  obtain ⟨σf, q1, q2, q3, q4, q5, q6, -, -⟩ := z_fitL X hN (c + 1) 0 q_fu σ1 (by omega) (by show c + 1 < 5000; omega) K
  refine ⟨σf, ?_, q2, q3, q4, q5, fun i hi => q6 i (by omega) hi⟩
  unfold t_X12_fillsFits
  try dsimp only
  rw [k1, Option.bind_some]
  exact q1
section FC
variable {b n po c nc r : Nat} {o : g_S} {κ0 κ : Nat → g_S} {σ0 σf : r_S} {h0 h : q_H} {x : Int32}
/-- the class finds the same -/
theorem z_fitC (X : z_X b n po c o κ0 σ0 h0) (hN : z_nt (κ0 6) (r_A σ0 20) nc) (hr : r ≤ c) (F : z_ft σ0 σf r x) (Q : z_q b κ0 κ h0 h) : ∃ ro h' κ', m_X8_ruleAt h (b + 130) (nI r - 1) = some ro ∧ m_X8_isAsNoted h (b + 130) po ro = some (x, h') ∧ z_q b κ0 κ' h0 h' ∧ (∀ j, j ≠ 10 → j ≠ 11 → κ' j = κ j) := by
  have hc6 : c ≤ 6 := (X.2.2.2.2.2.2.2.2.2.1).1
  obtain ⟨σs, σ1, σ2, f1, f2, f3, f4, f5, f6, f7, f8, f9, f10, f11⟩ := F
  obtain ⟨ro, r1, r2⟩ := z_ruF (σ := σs) X Q f2 f3 f4 (z_frc hr)
  obtain ⟨x', h', κ', σ1', σ2', a0, a1, a2, a3, a4, a5, a6⟩ := z_isn (r := r) (ro := ro) (σ := σs) X (by omega) hN Q (Or.inl X.2.2.1) (z_Xg4 X Q) (z_R_ext f6 X.2.2.2.2.2.1) (z_o_ext f6 X.2.2.2.2.1) (by rw [f1]; exact r2 po (Or.inl rfl)) (fun p hp => by rw [f5]; exact X.2.2.2.2.2.2.2.2.2.2.2 p hp) (fun j hj => f6 j (by omega))
  have e1 : σ1' = σ1 := Option.some.inj (a4.symm.trans f7)
  rw [e1, f8] at a5
  have e2 := Option.some.inj a5
  have e3 : x = x' := congrArg Prod.fst e2
  exact ⟨ro, h', κ', r1, by rw [e3]; exact a1, a2, a3⟩
/-- and follows the same RIBBON -/
theorem z_folC (X : z_X b n po c o κ0 σ0 h0) (hN : z_nt (κ0 6) (r_A σ0 20) nc) (hr : r ≤ c) {t : Nat} (ht : t < 7) (F : z_ft σ0 σf r x) (Q : z_q b κ0 κ h0 h) : ∃ ro h' κ', m_X8_ruleAt h (b + 130) (nI r - 1) = some ro ∧ m_X8_follow h (b + 130) ro (nI t) = some h' ∧ z_q b κ0 κ' h0 h' ∧ (∀ k, k < 61 → g_A (κ' 14) t k = r_A σf 31 (61 * r + k)) ∧ (∀ i, i ≠ t → g_A (κ' 14) i = g_A (κ 14) i) := by
  have hc6 : c ≤ 6 := (X.2.2.2.2.2.2.2.2.2.1).1
  obtain ⟨σs, σ1, σ2, f1, f2, f3, f4, f5, f6, f7, f8, f9, f10, f11⟩ := F
  obtain ⟨ro, r1, r2⟩ := z_ruF (σ := σs) X Q f2 f3 f4 (z_frc hr)
  obtain ⟨s', b1, b2⟩ := z_begins σs
  have e1 : σ1 = r_sa σs 20 s' := Option.some.inj (f7.symm.trans b1)
  obtain ⟨h1, κ1, h2, κ2, p1, W1, p3, p4, R, p6⟩ := z_prep (ro := ro) Q (Or.inl X.2.2.1) (z_Xg4 X Q) (z_R_ext f6 X.2.2.2.2.2.1) (z_o_ext f6 X.2.2.2.2.1) (by rw [f1]; exact r2 po (Or.inl rfl)) (fun p hp => by rw [f5]; exact X.2.2.2.2.2.2.2.2.2.2.2 p hp) b2
  obtain ⟨x', h', κ', σ', q1, q2, q3, q4, q5, q6, q7⟩ := z_soF X (show r < 7 by omega) ht hN 61 0 q_fu q_fu 1 κ2 (r_sa σs 20 s') h2 (by omega) (by show 61 < 5000; omega) (by show 61 < 5000; omega) R (fun j hj => by rw [z_rA, b2.2.2.2 j (by omega)]; exact f6 j (by omega)) (Or.inr rfl)
  have e2 : σ' = σ2 := by
    rw [e1] at f8
    have e := Option.some.inj ((show t_X12_areAllSo (r_sa σs 20 s') (nI r) = some (x', σ') from q3).symm.trans f8)
    exact congrArg Prod.snd e
  have hpo1 : g_P (κ1 6) 0 = some po := by rw [p3]; exact z_Xpo X Q
  refine ⟨ro, h', κ', r1, ?_, q2, fun k hk => ?_, fun i hi => (q7 i hi).trans (by rw [p6 14 (by decide) (by decide)])⟩
  · unfold m_X8_follow
    rw [We2 Q.1, Option.bind_some, We0 Q.1, Option.bind_some, Wgr Q.1 (z_Xpo X Q), Option.bind_some, ca1 (Ww10 Q.1), p1, Option.bind_some, We3 W1, Option.bind_some, We0 W1, Option.bind_some, Wgr W1 hpo1, Option.bind_some, ca10 (Ww11 W1), p4, Option.bind_some]
    exact q1
  · rw [q5 k (by omega) hk, f11 k hk, e2]
end FC
theorem z_ruledL {b n po c nc : Nat} {o : g_S} {κ0 : Nat → g_S} {σ0 σf : r_S} {h0 : q_H} (X : z_X b n po c o κ0 σ0 h0) (hN : z_nt (κ0 6) (r_A σ0 20) nc) (hF : ∀ i, i ≤ c → ∃ x, z_ft σ0 σf i x) (wh : Int32) : ∀ (m fu fu' : Nat) (many fst : Int32) (κ : Nat → g_S) (h : q_H), m ≤ c + 1 → m < fu → m < fu' → z_q b κ0 κ h0 h → ∃ r h' κ', m_X8_rulesThatFit_11 fu h (b + 130) wh many fst (nI m - 2) = some (r, h') ∧ z_q b κ0 κ' h0 h' ∧ t_X12_ruled_35 fu' σf wh many fst (nI m - 1) = some (r, σf) := by
  have hc6 : c ≤ 6 := (X.2.2.2.2.2.2.2.2.2.1).1
  have i1 : ∀ m, m < 8 → nI (m + 1) - 2 = nI m - 1 ∧ nI (m + 1) - 1 = nI m ∧ ¬ (nI m - 1 < (-1 : Int32)) ∧ ¬ (nI m < 0) ∧ (nI m - 1) + (-1) = nI m - 2 ∧ nI m + (-1) = nI m - 1 := by decide +kernel
  intro m
  induction m with
  | zero =>
    intro fu fu' many fst κ h hm hf hf' Q
    obtain ⟨fu, rfl⟩ := Nat.exists_eq_succ_of_ne_zero (show fu ≠ 0 by omega)
    obtain ⟨fu', rfl⟩ := Nat.exists_eq_succ_of_ne_zero (show fu' ≠ 0 by omega)
    refine ⟨if wh = 0 then many else fst, h, κ, ?_, Q, ?_⟩
    · rw [m_X8_rulesThatFit_11, if_pos (by decide)]
      split <;> rfl
    · rw [t_X12_ruled_35, if_pos (by decide)]
      split <;> rfl
  | succ m ih =>
    intro fu fu' many fst κ h hm hf hf' Q
    obtain ⟨fu, rfl⟩ := Nat.exists_eq_succ_of_ne_zero (show fu ≠ 0 by omega)
    obtain ⟨fu', rfl⟩ := Nat.exists_eq_succ_of_ne_zero (show fu' ≠ 0 by omega)
    obtain ⟨j1, j2, j3, j4, j5, j6⟩ := i1 m (by omega)
    obtain ⟨x, F⟩ := hF m (by omega)
    obtain ⟨ro, h1, κ1, r1, r2, r3, r4⟩ := z_fitC X hN (show m ≤ c by omega) F Q
    obtain ⟨σs, σ1, σ2, f1, f2, f3, f4, f5, f6, f7, f8, f9, f10, f11⟩ := F
    have eA : m_X8_rulesThatFit_11 (fu + 1) h (b + 130) wh many fst (nI (m + 1) - 2) = if x = 0 then m_X8_rulesThatFit_11 fu h1 (b + 130) wh many fst (nI m - 2) else m_X8_rulesThatFit_11 fu h1 (b + 130) wh (many + 1) (nI m - 1) (nI m - 2) := by
      rw [m_X8_rulesThatFit_11, j1, if_neg j3, We0 Q.1, Option.bind_some, Wgr Q.1 (z_Xpo X Q), Option.bind_some, Wca8 Q.1, r1, Option.bind_some, Wca8 Q.1, r2, Option.bind_some]
      try dsimp only
      rw [m_X8_rulesThatFit_44, m_X8_rulesThatFit_44, j5]
    have eB : t_X12_ruled_35 (fu' + 1) σf wh many fst (nI (m + 1) - 1) = if x = 0 then t_X12_ruled_35 fu' σf wh many fst (nI m - 1) else t_X12_ruled_35 fu' σf wh (many + 1) (nI m - 1) (nI m - 1) := by
      rw [t_X12_ruled_35, j2, if_neg j4, t_ai_in (by omega) (by decide), Option.bind_some, f10, t_X12_ruled_61, t_X12_ruled_61, j6]
    rcases f9 with rfl | rfl
    · obtain ⟨r, h', κ', a1, a2, a3⟩ := ih fu fu' many fst κ1 h1 (by omega) (by omega) (by omega) r3
      exact ⟨r, h', κ', by rw [eA, if_pos rfl]; exact a1, a2, by rw [eB, if_pos rfl]; exact a3⟩
    · obtain ⟨r, h', κ', a1, a2, a3⟩ := ih fu fu' (many + 1) (nI m - 1) κ1 h1 (by omega) (by omega) (by omega) r3
      exact ⟨r, h', κ', by rw [eA, if_neg (by decide)]; exact a1, a2, by rw [eB, if_neg (by decide)]; exact a3⟩
theorem z_ruled {b n po c nc : Nat} {o : g_S} {κ : Nat → g_S} {σ : r_S} {h : q_H} (X : z_X b n po c o κ σ h) (hN : z_nt (κ 6) (r_A σ 20) nc) (wh : Int32) :
    ∃ r h' κ' σ', m_X8_rulesThatFit h (b + 130) (nI c) wh = some (r, h') ∧ z_q b κ κ' h h' ∧ (t_X12_fillsFits σ).bind (fun σ6 => t_X12_ruled_35 q_fu σ6 wh 0 (-2) (r_I σ6 2)) = some (r, σ') ∧ z_k σ σ' ∧ r_A σ' 20 = r_A σ 20 ∧ r_A σ' 23 = r_A σ 23 ∧ r_I σ' 21 = r_I σ 21 := by
  have hc6 : c ≤ 6 := (X.2.2.2.2.2.2.2.2.2.1).1
  obtain ⟨σf, f1, f2, f3, f4, f5, f6⟩ := z_fills X hN
  have i1 : ∀ m, m < 8 → nI (m + 1) - 2 = nI m - 1 ∧ nI (m + 1) - 1 = nI m := by decide +kernel
  obtain ⟨r, h', κ', a1, a2, a3⟩ := z_ruledL X hN f6 wh (c + 1) q_fu q_fu 0 (-2) κ h (by omega) (by show c + 1 < 5000; omega) (by show c + 1 < 5000; omega) (z_q_refl X.1)
  rw [(i1 c (by omega)).1] at a1
  rw [(i1 c (by omega)).2] at a3
  refine ⟨r, h', κ', σf, a1, a2, ?_, f2, f3, f4, f5⟩
  rw [f1, Option.bind_some, f2.1 2 (by decide) (by decide), (X.2.2.2.2.2.2.2.2.2.1).2.2.1]
  exact a3
