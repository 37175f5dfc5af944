/-! ===== L3: STRENGTHS and WINDS ===== -/
/-- the Heaver takes up ROPE and RULE, the trial begins: the reference begins, too -/
theorem z_prep {b n q : Nat} {o : g_S} {ro : Option Nat} {κ0 κ : Nat → g_S} {h0 h : q_H} {σ : r_S} {s' : Nat → Int32} (Q : z_q b κ0 κ h0 h) (hq : b + 175 ≤ q ∨ q = b + 136) (Go : g4 q o h) (hR : z_R (r_A σ 20) n) (ho : z_o o (r_A σ 20) n) (hru : z_ru b ro (r_I σ 21) σ h q) (hpl : ∀ p, p < 8 → r_A σ 23 p = -1) (hb : z_bg (r_A σ 20) s') : ∃ h1 κ1 h2 κ2, m_X1_takeUp h (b + 124) q ro = some h1 ∧ z_W b κ1 h1 ∧ g_P (κ1 6) = g_P (κ 6) ∧ m_X10_begin h1 (b + 131) q = some h2 ∧ z_rq b n q o κ0 κ2 h0 h2 (r_sa σ 20 s') ∧ (∀ j, j ≠ 10 → j ≠ 11 → κ2 j = κ j) := by
  obtain ⟨h1, κ1, t1, Q1, t3, t4, t5, t6, t7⟩ := z_qtake (po := q) (ro := ro) Q
  have Go1 : g4 q o h1 := fr4 Go (fun a ha => t7 a (by unfold f4 at ha; unfold f1; omega))
  obtain ⟨t', e1, e2⟩ := z_begin (t := κ1 11) hR ho hb
  obtain ⟨h2, d1, d2, d3⟩ := l_X10_begin h1 (b + 131) q (κ1 11) o e1 (Ww11 Q1.1) Go1 (fun a h1 h2 => by unfold f10 at h1; unfold f4 at h2; omega)
  have same : ∀ j, j < 10 ∨ 52 ≤ j → s' j = r_A σ 20 j := hb.2.2.2
  refine ⟨h1, κ1, h2, va_up κ1 11 t', t1, Q1.1, by rw [t3 6 (by decide)], d1, ⟨⟨W_11 Q1.1 d2 d3, fun k hk => (va_up_of (by omega)).trans (Q1.2.1 k hk), fun a ha => (d3 a (by unfold f10; omega)).trans (Q1.2.2 a ha)⟩, hq, fr4 Go1 (fun a ha => d3 a (by unfold f4 at ha; unfold f10; omega)), by rw [z_rA]; exact z_R_ext same hR, by rw [z_rA]; exact z_o_ext same ho, by rw [z_rA]; exact z_bg_V hR hb, by rw [va_up_at, z_rA]; exact e2, by rw [va_up_of (by decide)]; exact t4, ?_, fun p hp => ?_⟩, fun j j1 j2 => (va_up_of j2).trans (t3 j j1)⟩
  · rw [va_up_of (by decide), t5]
    exact z_ru_fr hru (fun a ha => (d3 a (by unfold f10; omega)).trans (t7 a (by unfold f1; omega))) (z_rAn (by decide)) (z_rAn (by decide)) (z_rAn (by decide))
  · rw [va_up_of (by decide), t6 p hp, z_rAn (by decide), hpl p hp]
    exact ⟨rfl, Or.inl rfl⟩
/-- whether all NOTES are so, from the begin on -/
theorem z_isn {b n po q c nc r : Nat} {o o' : g_S} {ro : Option Nat} {κ0 κ : Nat → g_S} {σ0 σ : r_S} {h0 h : q_H} {s0 : Nat → Int32} (X : z_X b n po c o κ0 σ0 h0) (hr : r < 7) (hN : z_nt (κ0 6) s0 nc) (Q : z_q b κ0 κ h0 h) (hq : b + 175 ≤ q ∨ q = b + 136) (Go : g4 q o' h) (hR : z_R (r_A σ 20) n) (ho : z_o o' (r_A σ 20) n) (hru : z_ru b ro (r_I σ 21) σ h q) (hpl : ∀ p, p < 8 → r_A σ 23 p = -1) (h85 : ∀ j, 85 ≤ j → r_A σ 20 j = s0 j) : ∃ x h' κ' σ1 σ', (x = 0 ∨ x = 1) ∧ m_X8_isAsNoted h (b + 130) q ro = some (x, h') ∧ z_q b κ0 κ' h0 h' ∧ (∀ j, j ≠ 10 → j ≠ 11 → κ' j = κ j) ∧ t_X12_begins σ = some σ1 ∧ t_X12_areAllSo σ1 (nI r) = some (x, σ') ∧ z_e31 r 0 σ σ' := by
  obtain ⟨s', b1, b2⟩ := z_begins σ
  obtain ⟨h1, κ1, h2, κ2, p1, W1, p3, p4, R, p6⟩ := z_prep Q hq Go hR ho hru hpl b2
  have W2 := R.1.1
  have e6 : κ2 6 = κ0 6 := R.1.2.1 6 (by omega)
  obtain ⟨L, l1, l2, l3⟩ := z_last hN
  have l1' : m_X0_lastNoted h2 (b + 13) = some (nI L + (-1)) := l_X0_lastNoted _ _ _ (by rw [e6]; exact l1) (Ww6 W2)
  obtain ⟨x, h', κ', σ', q0, q1, q2, q3, q4, q5⟩ := z_soA X hr hN l3 l2 61 0 q_fu q_fu κ2 (r_sa σ 20 s') h2 (by omega) (by show 61 < 5000; omega) (by show 61 < 5000; omega) R (fun j hj => by rw [z_rA, b2.2.2.2 j (by omega)]; exact h85 j hj)
  refine ⟨x, h', κ', r_sa σ 20 s', σ', q0, ?_, q2, fun j j1 j2 => (q3 j j1 j2).trans (p6 j j1 j2), b1, q4, ?_⟩
  · unfold m_X8_isAsNoted
    rw [We2 Q.1, Option.bind_some, ca1 (Ww10 Q.1), p1, Option.bind_some, We3 W1, Option.bind_some, ca10 (Ww11 W1), p4, Option.bind_some, We0 W2, Option.bind_some, ca0 (Ww6 W2), l1', Option.bind_some]
    exact q1
  · obtain ⟨x1, x2, x3, x4, x5⟩ := q5
    rw [z_rAn (show 31 ≠ 20 by decide)] at x5
    rw [z_rA] at x4
    exact ⟨x1, fun j a c d => (x2 j a c d).trans (z_rAn a), x3, fun j hj => (x4 j hj).trans (b2.2.2.2 j hj), x5⟩
/-- a ROPE is copied -/
theorem z_ocopy {h : q_H} {p q : Nat} {a o : g_S} (Ga : g4 p a h) (Go : g4 q o h) (D : p + 5 ≤ q ∨ q + 5 ≤ p) : ∃ h' a', m_X4_copyFrom h p q = some h' ∧ g4 p a' h' ∧ (∀ x, ¬ f4 p x → h' x = h x) ∧ (∀ s n, n ≤ 8 → z_o o s n → z_o a' s n) := by
  obtain ⟨a', e1, e2⟩ : ∃ a', t_X4_copyFrom a o = some a' ∧ (∀ s n, n ≤ 8 → z_o o s n → z_o a' s n) := by
    unfold t_X4_copyFrom
    dsimp only
    rw [z_cp_in, Option.bind_some, z_cp_in, Option.bind_some, z_cp_in, Option.bind_some, z_cp_in, Option.bind_some]
    refine ⟨_, rfl, fun s n hn ho => ?_⟩
    obtain ⟨o3, o0, o1, o2, oA⟩ := ho
    have cp : ∀ (f g : Nat → Int32) p, p < 8 → va_cpy f g 0 0 8 p = f p := fun f g p hp => by
      rw [pk_cpy_in (by omega) (by omega)]
      congr 1
      omega
    refine ⟨?_, ?_, ?_, ?_, fun p hp => ?_⟩
    · show va_up (va_up (va_up (va_up a.1 0 (g_I o 0)) 1 (g_I o 1)) 2 (g_I o 2)) 3 (g_I o 3) 3 = _
      rw [va_up_at]; exact o3
    · show va_up (va_up (va_up (va_up a.1 0 (g_I o 0)) 1 (g_I o 1)) 2 (g_I o 2)) 3 (g_I o 3) 0 = _
      rw [va_up_of (by decide), va_up_of (by decide), va_up_of (by decide), va_up_at]; exact o0
    · show va_up (va_up (va_up (va_up a.1 0 (g_I o 0)) 1 (g_I o 1)) 2 (g_I o 2)) 3 (g_I o 3) 1 = _
      rw [va_up_of (by decide), va_up_of (by decide), va_up_at]; exact o1
    · show va_up (va_up (va_up (va_up a.1 0 (g_I o 0)) 1 (g_I o 1)) 2 (g_I o 2)) 3 (g_I o 3) 2 = _
      rw [va_up_of (by decide), va_up_at]; exact o2
    · rw [z_sa_of (show 4 ≠ 7 by decide), z_sa_of (show 4 ≠ 6 by decide), z_sa_of (show 4 ≠ 5 by decide), z_sa_at, z_sa_of (show 5 ≠ 7 by decide), z_sa_of (show 5 ≠ 6 by decide), z_sa_at, z_sa_of (show 6 ≠ 7 by decide), z_sa_at, z_sa_at, cp _ _ p (by omega), cp _ _ p (by omega), cp _ _ p (by omega), cp _ _ p (by omega)]
      exact oA p hp
  obtain ⟨h', d1, d2, d3⟩ := l_X4_copyFrom h p q a o e1 Ga Go (fun x h1 h2 => by unfold f4 at h1 h2; omega)
  exact ⟨h', a', d1, d2, d3, e2⟩
/-- the reference while a number that was told is tried -/
def z_kc (σ0 σ : r_S) (cell : Nat) : Prop := (∀ k, k ≠ 18 → r_I σ k = r_I σ0 k) ∧ (∀ k, k ≠ 20 → k ≠ 24 → k ≠ 27 → k ≠ 31 → r_A σ k = r_A σ0 k) ∧ (∀ j, j < 42 → r_A σ 27 j = r_A σ0 20 (10 + j)) ∧ (∀ j, (j < 10 ∨ 52 ≤ j) → j ≠ cell → r_A σ 20 j = r_A σ0 20 j)
theorem z_lowlt : ∀ w, w < 62 → ((nI w + (-1) < (1 : Int32)) ↔ w ≤ 1) ∧ ((nI w + (-1) < (0 : Int32)) ↔ w ≤ 0) := by decide +kernel
theorem z_canS {b n po c nc p : Nat} {o : g_S} {κ0 : Nat → g_S} {σ0 : r_S} {h0 : q_H} (X : z_X b n po c o κ0 σ0 h0) (hN : z_nt (κ0 6) (r_A σ0 20) nc) (hp : p < n) (wh : Int32) : ∀ (m w fu fu' : Nat) (many least : Int32) (κ : Nat → g_S) (σ : r_S) (h : q_H), w = m + 1 → w ≤ 40 + 1 → m < fu → m < fu' → z_q b κ0 κ h0 h → z_kc σ0 σ (52 + p) → z_o (g_sa (κ 12) 5 (upd (g_A (κ 12) 5) p (r_A σ0 20 (52 + p)))) (r_A σ0 20) n →
    ∃ r h' κ' σ', m_X8_possibleStrengths_24 fu h (b + 130) (nI p) wh many least (nI w + (-1)) = some (r, h') ∧ z_q b κ0 κ' h0 h' ∧ t_X12_canBe_22 fu' σ (nI (52 + p)) 1 wh (r_A σ0 20 (52 + p)) many least (nI w + (-1)) = some (r, σ') ∧ z_k σ0 σ' ∧ r_A σ' 20 = r_A σ0 20 ∧ r_A σ' 23 = r_A σ0 23 ∧ r_I σ' 21 = r_I σ0 21 := by
  have hR0 := X.2.2.2.2.2.1
  have hn : n ≤ 8 := hR0.1
  intro m
  induction m with
  | zero =>
    intro w fu fu' many least κ σ h hw hwh hf hf' Q K ho
    obtain ⟨fu, rfl⟩ := Nat.exists_eq_succ_of_ne_zero (show fu ≠ 0 by omega)
    obtain ⟨fu', rfl⟩ := Nat.exists_eq_succ_of_ne_zero (show fu' ≠ 0 by omega)
    have hlow : nI w + (-1) < (1 : Int32) := (z_lowlt w (by omega)).1.mpr (by omega)
    have K2 : z_k σ0 (r_sa σ 20 (upd (r_A σ 20) (52 + p) (r_A σ0 20 (52 + p)))) := ⟨fun k h1 _ => K.1 k h1, fun k h1 _ h3 => (z_rAn h1).trans (K.2.1 k h1 (by omega) (by omega) (by omega)), fun j hj => by rw [z_rAn (by decide)]; exact K.2.2.1 j hj, fun j hj => by
      rw [z_rA]
      by_cases e : j = 52 + p
      · rw [e, pk_us]
      · rw [pk_un e]; exact K.2.2.2 j hj e⟩
    obtain ⟨l1, l2⟩ := z_lays K2
    refine ⟨if wh = 0 then many else least, h, κ, _, ?_, Q, ?_, l2, z_rA _ _ _, (z_rAn (by decide)).trans ((z_rAn (by decide)).trans (K.2.1 23 (by decide) (by decide) (by decide) (by decide))), K.1 21 (by decide)⟩
    · rw [m_X8_possibleStrengths_24, if_pos hlow]
      split <;> rfl
    · rw [t_X12_canBe_22, if_pos hlow, t_si_in (by omega) (by decide), Option.bind_some, l1, Option.bind_some]
      split <;> rfl
  | succ m ih =>
    intro w fu fu' many least κ σ h hw hwh hf hf' Q K ho
    obtain ⟨fu, rfl⟩ := Nat.exists_eq_succ_of_ne_zero (show fu ≠ 0 by omega)
    obtain ⟨fu', rfl⟩ := Nat.exists_eq_succ_of_ne_zero (show fu' ≠ 0 by omega)
    obtain ⟨v, rfl⟩ : ∃ v, w = v + 1 := ⟨w - 1, by omega⟩
    have hlow : ¬ nI (v + 1) + (-1) < (1 : Int32) := fun e => by have := (z_lowlt (v + 1) (by omega)).1.mp e; omega
    have W := Q.1
    -- the number is told
    obtain ⟨h1, d1, d2, d3⟩ := as4_5 (Ww12 W) (u_si_in (k := 5) (s := κ 12) (x := nI v) (show p < 8 by omega) (by decide))
    have W1 := W_12 W d2 d3
    have Q1 : z_q b κ0 (va_up κ 12 (g_sa (κ 12) 5 (upd (g_A (κ 12) 5) p (nI v)))) h0 h1 := ⟨W1, fun k hk => (va_up_of (by omega)).trans (Q.2.1 k hk), fun a ha => (d3 a (by unfold f4; omega)).trans (Q.2.2 a ha)⟩
    have K1 : z_kc σ0 (r_sa σ 20 (upd (r_A σ 20) (52 + p) (nI v))) (52 + p) := ⟨K.1, fun k a1 a2 a3 a4 => (z_rAn a1).trans (K.2.1 k a1 a2 a3 a4), fun j hj => by rw [z_rAn (by decide)]; exact K.2.2.1 j hj, fun j hj e => by rw [z_rA, pk_un e]; exact K.2.2.2 j hj e⟩
    have rd : ∀ j, (j < 10 ∨ 52 ≤ j) → upd (r_A σ 20) (52 + p) (nI v) j = upd (r_A σ0 20) (52 + p) (nI v) j := fun j hj => by
      by_cases e : j = 52 + p
      · rw [e, pk_us, pk_us]
      · rw [pk_un e, pk_un e]; exact K.2.2.2 j hj e
    have hR1 : z_R (r_A (r_sa σ 20 (upd (r_A σ 20) (52 + p) (nI v))) 20) n := by
      rw [z_rA]
      refine z_R_ext rd ?_
      obtain ⟨x1, x2, x3, x4, x5, x6, x7⟩ := hR0
      refine ⟨x1, by rw [pk_un (by omega)]; exact x2, by rw [pk_un (by omega)]; exact x3, by rw [pk_un (by omega)]; exact x4, by rw [pk_un (by omega)]; exact x5, by rw [pk_un (by omega)]; exact x6, fun q hq => ?_⟩
      obtain ⟨y1, y2, y3, y4⟩ := x7 q hq
      refine ⟨by rw [pk_un (by omega)]; exact y1, ?_, by rw [pk_un (by omega)]; exact y3, by rw [pk_un (by omega)]; exact y4⟩
      by_cases e : q = p
      · rw [e, pk_us]; exact ⟨v, by omega, by omega, rfl⟩
      · rw [pk_un (by omega)]; exact y2
    have ho1 : z_o (g_sa (κ 12) 5 (upd (g_A (κ 12) 5) p (nI v))) (r_A (r_sa σ 20 (upd (r_A σ 20) (52 + p) (nI v))) 20) n := by
      rw [z_rA]
      refine z_o_ext rd ?_
      obtain ⟨x1, x2, x3, x4, x5⟩ := ho
      refine ⟨x1, by rw [pk_un (by omega)]; exact x2, by rw [pk_un (by omega)]; exact x3, by rw [pk_un (by omega)]; exact x4, fun q hq => ?_⟩
      obtain ⟨y1, y2, y3, y4⟩ := x5 q hq
      rw [z_sa_of (show 4 ≠ 5 by decide)] at y1
      rw [z_sa_at] at y2
      rw [z_sa_of (show 6 ≠ 5 by decide)] at y3
      rw [z_sa_of (show 7 ≠ 5 by decide)] at y4
      rw [z_sa_of (show 4 ≠ 5 by decide), z_sa_at, z_sa_of (show 6 ≠ 5 by decide), z_sa_of (show 7 ≠ 5 by decide)]
      refine ⟨by rw [pk_un (by omega)]; exact y1, ?_, by rw [pk_un (by omega)]; exact y3, by rw [pk_un (by omega)]; exact y4⟩
      by_cases e : q = p
      · rw [e, pk_us, pk_us]
      · rw [pk_un e, pk_un (by omega)]
        rw [pk_un e] at y2
        exact y2
    obtain ⟨ro, r1, r2⟩ := z_ruF (σ := r_sa σ 20 (upd (r_A σ 20) (52 + p) (nI v))) X Q1 ((z_rAn (by decide)).trans (K.2.1 3 (by decide) (by decide) (by decide) (by decide))) ((z_rAn (by decide)).trans (K.2.1 5 (by decide) (by decide) (by decide) (by decide))) ((z_rAn (by decide)).trans (K.2.1 6 (by decide) (by decide) (by decide) (by decide))) (X.2.2.2.2.2.2.2.2.2.1).2.2.2.2.2.1
    have hfo : r_I (r_sa σ 20 (upd (r_A σ 20) (52 + p) (nI v))) 21 = r_I σ0 21 := K.1 21 (by decide)
    obtain ⟨x, h2, κ2, σ1, σ2, a0, a1, a2, a3, a4, a5, a6⟩ := z_isn (r := 0) (ro := ro) X (by decide) hN Q1 (Or.inr rfl) d2 hR1 ho1 (by rw [hfo]; exact r2 (b + 136) (Or.inr rfl)) (fun q hq => by rw [z_rAn (by decide), K.2.1 23 (by decide) (by decide) (by decide) (by decide)]; exact X.2.2.2.2.2.2.2.2.2.2.2 q hq) (fun j hj => by rw [z_rA, pk_un (by omega)]; exact K.2.2.2 j (by omega) (by omega))
    have K3 : z_kc σ0 σ2 (52 + p) := ⟨fun k hk => (a6.1 k hk).trans (K1.1 k hk), fun k b1 b2 b3 b4 => (a6.2.1 k b1 b2 b4).trans (K1.2.1 k b1 b2 b3 b4), fun j hj => by rw [a6.2.1 27 (by decide) (by decide) (by decide)]; exact K1.2.2.1 j hj, fun j hj e => (a6.2.2.2.1 j hj).trans (K1.2.2.2 j hj e)⟩
    have ho3 : z_o (g_sa (κ2 12) 5 (upd (g_A (κ2 12) 5) p (r_A σ0 20 (52 + p)))) (r_A σ0 20) n := by
      rw [a3 12 (by decide) (by decide), va_up_at, z_sa_at, z_updd, show ∀ f g : Nat → Int32, g_sa (g_sa (κ 12) 5 f) 5 g = g_sa (κ 12) 5 g from fun f g => by unfold g_sa; simp only [bx_uu]]
      exact ho
    have eA : m_X8_possibleStrengths_24 (fu + 1) h (b + 130) (nI p) wh many least (nI (v + 1) + (-1)) = if x = 0 then m_X8_possibleStrengths_24 fu h2 (b + 130) (nI p) wh many least (nI v + (-1)) else m_X8_possibleStrengths_24 fu h2 (b + 130) (nI p) wh (many + 1) (nI v) (nI v + (-1)) := by
      rw [m_X8_possibleStrengths_24, if_neg hlow, We4 W, Option.bind_some, gn4_5 (Ww12 W), Option.bind_some, pk_m1, d1, Option.bind_some, We4 W1, Option.bind_some, Wca8 W1, z_ruleIF W1, Q1.2.1 6 (by omega), (X.2.2.2.2.2.2.2.2.2.1).2.2.2.2.2.2, r1, Option.bind_some, Wca8 W1, a1, Option.bind_some]
      try dsimp only
      rw [m_X8_possibleStrengths_63, m_X8_possibleStrengths_63]
    have eB : t_X12_canBe_22 (fu' + 1) σ (nI (52 + p)) 1 wh (r_A σ0 20 (52 + p)) many least (nI (v + 1) + (-1)) = if x = 0 then t_X12_canBe_22 fu' σ2 (nI (52 + p)) 1 wh (r_A σ0 20 (52 + p)) many least (nI v + (-1)) else t_X12_canBe_22 fu' σ2 (nI (52 + p)) 1 wh (r_A σ0 20 (52 + p)) (many + 1) (nI v) (nI v + (-1)) := by
      rw [t_X12_canBe_22, if_neg hlow, pk_m1, t_si_in (by omega) (by decide), Option.bind_some, a4, Option.bind_some, show t_X12_areAllSo σ1 0 = _ from a5, Option.bind_some]
      try dsimp only
      rw [t_X12_canBe_58, t_X12_canBe_58]
    rcases a0 with rfl | rfl
    · obtain ⟨r, h', κ', σ', b1, b2, b3, b4⟩ := ih v fu fu' many least κ2 σ2 h2 (by omega) (by omega) (by omega) (by omega) a2 K3 ho3
      exact ⟨r, h', κ', σ', by rw [eA, if_pos rfl]; exact b1, b2, by rw [eB, if_pos rfl]; exact b3, b4⟩
    · obtain ⟨r, h', κ', σ', b1, b2, b3, b4⟩ := ih v fu fu' (many + 1) (nI v) κ2 σ2 h2 (by omega) (by omega) (by omega) (by omega) a2 K3 ho3
      exact ⟨r, h', κ', σ', by rw [eA, if_neg (by decide)]; exact b1, b2, by rw [eB, if_neg (by decide)]; exact b3, b4⟩
theorem z_canS2 {b n po c nc p : Nat} {o : g_S} {κ : Nat → g_S} {σ : r_S} {h : q_H} (X : z_X b n po c o κ σ h) (hN : z_nt (κ 6) (r_A σ 20) nc) (hp : p < n) (wh : Int32) :
    ∃ r h' κ' σ', m_X8_possibleStrengths h (b + 130) (nI p) wh = some (r, h') ∧ z_q b κ κ' h h' ∧ t_X12_canBe σ (52 + nI p) 1 40 wh = some (r, σ') ∧ z_k σ σ' ∧ r_A σ' 20 = r_A σ 20 ∧ r_A σ' 23 = r_A σ 23 ∧ r_I σ' 21 = r_I σ 21 := by
  have hn : n ≤ 8 := X.2.2.2.2.2.1.1
  have W := X.1
  obtain ⟨σ1, k1, k2, k3, k4, k5, k6⟩ := z_keeps σ
  have hpo := X.2.2.1
  obtain ⟨h1, a', c1, c2, c3, c4⟩ := z_ocopy (Ww12 W) X.2.2.2.1 (by omega)
  have ho := c4 _ n hn X.2.2.2.2.1
  have e12 : g_sa a' 5 (upd (g_A a' 5) p (r_A σ 20 (52 + p))) = a' := by
    rw [← (ho.2.2.2.2 p hp).2.1, z_upd_eta]
    unfold g_sa g_A
    rw [va_up_eta]
  have K : z_kc σ σ1 (52 + p) := by
    obtain ⟨f, q1, -, -⟩ := z_keepsL (s := r_A σ 20) 42 0 q_fu σ (by omega) (by show 42 < 5000; omega) rfl
    have e : σ1 = r_sa σ 27 f := Option.some.inj (k1.symm.trans q1)
    refine ⟨fun k _ => by rw [e]; rfl, fun k a1 a2 a3 a4 => by rw [e]; exact z_rAn a3, k2.2.2.1, fun j hj _ => k2.2.2.2 j hj⟩
  obtain ⟨r, h', κ', σ', b1, b2, b3, b4⟩ := z_canS X hN hp wh (40 + 1 - 1) (40 + 1) q_fu q_fu 0 (-2) (va_up κ 12 a') σ1 h1 (by omega) (by omega) (by show _ < 5000; omega) (by show _ < 5000; omega) ⟨W_12 W c2 c3, fun k hk => va_up_of (by omega), fun a ha => c3 a (by unfold f4; omega)⟩ K (by rw [va_up_at, e12]; exact ho)
  refine ⟨r, h', κ', σ', ?_, b2, ?_, b4⟩
  · unfold m_X8_possibleStrengths
    rw [We4 W, Option.bind_some, We0 W, Option.bind_some, Wgr W X.2.1, Option.bind_some, ca4 (Ww12 W), c1, Option.bind_some]
    exact b1
  · unfold t_X12_canBe
    rw [z_k52, t_ai_in (by omega) (by decide), Option.bind_some, k1, Option.bind_some]
    exact b3
theorem z_canW {b n po c nc p : Nat} {o : g_S} {κ0 : Nat → g_S} {σ0 : r_S} {h0 : q_H} (X : z_X b n po c o κ0 σ0 h0) (hN : z_nt (κ0 6) (r_A σ0 20) nc) (hp : p < n) (wh : Int32) : ∀ (m w fu fu' : Nat) (many least : Int32) (κ : Nat → g_S) (σ : r_S) (h : q_H), w = m + 0 → w ≤ 60 + 1 → m < fu → m < fu' → z_q b κ0 κ h0 h → z_kc σ0 σ (76 + p) → z_o (g_sa (κ 12) 6 (upd (g_A (κ 12) 6) p (r_A σ0 20 (76 + p)))) (r_A σ0 20) n →
    ∃ r h' κ' σ', m_X8_possibleWinds_24 fu h (b + 130) (nI p) wh many least (nI w + (-1)) = some (r, h') ∧ z_q b κ0 κ' h0 h' ∧ t_X12_canBe_22 fu' σ (nI (76 + p)) 0 wh (r_A σ0 20 (76 + p)) many least (nI w + (-1)) = some (r, σ') ∧ z_k σ0 σ' ∧ r_A σ' 20 = r_A σ0 20 ∧ r_A σ' 23 = r_A σ0 23 ∧ r_I σ' 21 = r_I σ0 21 := by
  have hR0 := X.2.2.2.2.2.1
  have hn : n ≤ 8 := hR0.1
  intro m
  induction m with
  | zero =>
    intro w fu fu' many least κ σ h hw hwh hf hf' Q K ho
    obtain ⟨fu, rfl⟩ := Nat.exists_eq_succ_of_ne_zero (show fu ≠ 0 by omega)
    obtain ⟨fu', rfl⟩ := Nat.exists_eq_succ_of_ne_zero (show fu' ≠ 0 by omega)
    have hlow : nI w + (-1) < (0 : Int32) := (z_lowlt w (by omega)).2.mpr (by omega)
    have K2 : z_k σ0 (r_sa σ 20 (upd (r_A σ 20) (76 + p) (r_A σ0 20 (76 + p)))) := ⟨fun k h1 _ => K.1 k h1, fun k h1 _ h3 => (z_rAn h1).trans (K.2.1 k h1 (by omega) (by omega) (by omega)), fun j hj => by rw [z_rAn (by decide)]; exact K.2.2.1 j hj, fun j hj => by
      rw [z_rA]
      by_cases e : j = 76 + p
      · rw [e, pk_us]
      · rw [pk_un e]; exact K.2.2.2 j hj e⟩
    obtain ⟨l1, l2⟩ := z_lays K2
    refine ⟨if wh = 0 then many else least, h, κ, _, ?_, Q, ?_, l2, z_rA _ _ _, (z_rAn (by decide)).trans ((z_rAn (by decide)).trans (K.2.1 23 (by decide) (by decide) (by decide) (by decide))), K.1 21 (by decide)⟩
    · rw [m_X8_possibleWinds_24, if_pos hlow]
      split <;> rfl
    · rw [t_X12_canBe_22, if_pos hlow, t_si_in (by omega) (by decide), Option.bind_some, l1, Option.bind_some]
      split <;> rfl
  | succ m ih =>
    intro w fu fu' many least κ σ h hw hwh hf hf' Q K ho
    obtain ⟨fu, rfl⟩ := Nat.exists_eq_succ_of_ne_zero (show fu ≠ 0 by omega)
    obtain ⟨fu', rfl⟩ := Nat.exists_eq_succ_of_ne_zero (show fu' ≠ 0 by omega)
    obtain ⟨v, rfl⟩ : ∃ v, w = v + 1 := ⟨w - 1, by omega⟩
    have hlow : ¬ nI (v + 1) + (-1) < (0 : Int32) := fun e => by have := (z_lowlt (v + 1) (by omega)).2.mp e; omega
    have W := Q.1
    -- the number is told
    obtain ⟨h1, d1, d2, d3⟩ := as4_6 (Ww12 W) (u_si_in (k := 6) (s := κ 12) (x := nI v) (show p < 8 by omega) (by decide))
    have W1 := W_12 W d2 d3
    have Q1 : z_q b κ0 (va_up κ 12 (g_sa (κ 12) 6 (upd (g_A (κ 12) 6) p (nI v)))) h0 h1 := ⟨W1, fun k hk => (va_up_of (by omega)).trans (Q.2.1 k hk), fun a ha => (d3 a (by unfold f4; omega)).trans (Q.2.2 a ha)⟩
    have K1 : z_kc σ0 (r_sa σ 20 (upd (r_A σ 20) (76 + p) (nI v))) (76 + p) := ⟨K.1, fun k a1 a2 a3 a4 => (z_rAn a1).trans (K.2.1 k a1 a2 a3 a4), fun j hj => by rw [z_rAn (by decide)]; exact K.2.2.1 j hj, fun j hj e => by rw [z_rA, pk_un e]; exact K.2.2.2 j hj e⟩
    have rd : ∀ j, (j < 10 ∨ 52 ≤ j) → upd (r_A σ 20) (76 + p) (nI v) j = upd (r_A σ0 20) (76 + p) (nI v) j := fun j hj => by
      by_cases e : j = 76 + p
      · rw [e, pk_us, pk_us]
      · rw [pk_un e, pk_un e]; exact K.2.2.2 j hj e
    have hR1 : z_R (r_A (r_sa σ 20 (upd (r_A σ 20) (76 + p) (nI v))) 20) n := by
      rw [z_rA]
      refine z_R_ext rd ?_
      obtain ⟨x1, x2, x3, x4, x5, x6, x7⟩ := hR0
      refine ⟨x1, by rw [pk_un (by omega)]; exact x2, by rw [pk_un (by omega)]; exact x3, by rw [pk_un (by omega)]; exact x4, by rw [pk_un (by omega)]; exact x5, by rw [pk_un (by omega)]; exact x6, fun q hq => ?_⟩
      obtain ⟨y1, y2, y3, y4⟩ := x7 q hq
      refine ⟨by rw [pk_un (by omega)]; exact y1, by rw [pk_un (by omega)]; exact y2, ?_, by rw [pk_un (by omega)]; exact y4⟩
      by_cases e : q = p
      · rw [e, pk_us]; exact ⟨v, by omega, rfl⟩
      · rw [pk_un (by omega)]; exact y3
    have ho1 : z_o (g_sa (κ 12) 6 (upd (g_A (κ 12) 6) p (nI v))) (r_A (r_sa σ 20 (upd (r_A σ 20) (76 + p) (nI v))) 20) n := by
      rw [z_rA]
      refine z_o_ext rd ?_
      obtain ⟨x1, x2, x3, x4, x5⟩ := ho
      refine ⟨x1, by rw [pk_un (by omega)]; exact x2, by rw [pk_un (by omega)]; exact x3, by rw [pk_un (by omega)]; exact x4, fun q hq => ?_⟩
      obtain ⟨y1, y2, y3, y4⟩ := x5 q hq
      rw [z_sa_of (show 4 ≠ 6 by decide)] at y1
      rw [z_sa_of (show 5 ≠ 6 by decide)] at y2
      rw [z_sa_at] at y3
      rw [z_sa_of (show 7 ≠ 6 by decide)] at y4
      rw [z_sa_of (show 4 ≠ 6 by decide), z_sa_of (show 5 ≠ 6 by decide), z_sa_at, z_sa_of (show 7 ≠ 6 by decide)]
      refine ⟨by rw [pk_un (by omega)]; exact y1, by rw [pk_un (by omega)]; exact y2, ?_, by rw [pk_un (by omega)]; exact y4⟩
      by_cases e : q = p
      · rw [e, pk_us, pk_us]
      · rw [pk_un e, pk_un (by omega)]
        rw [pk_un e] at y3
        exact y3
    obtain ⟨ro, r1, r2⟩ := z_ruF (σ := r_sa σ 20 (upd (r_A σ 20) (76 + p) (nI v))) X Q1 ((z_rAn (by decide)).trans (K.2.1 3 (by decide) (by decide) (by decide) (by decide))) ((z_rAn (by decide)).trans (K.2.1 5 (by decide) (by decide) (by decide) (by decide))) ((z_rAn (by decide)).trans (K.2.1 6 (by decide) (by decide) (by decide) (by decide))) (X.2.2.2.2.2.2.2.2.2.1).2.2.2.2.2.1
    have hfo : r_I (r_sa σ 20 (upd (r_A σ 20) (76 + p) (nI v))) 21 = r_I σ0 21 := K.1 21 (by decide)
    obtain ⟨x, h2, κ2, σ1, σ2, a0, a1, a2, a3, a4, a5, a6⟩ := z_isn (r := 0) (ro := ro) X (by decide) hN Q1 (Or.inr rfl) d2 hR1 ho1 (by rw [hfo]; exact r2 (b + 136) (Or.inr rfl)) (fun q hq => by rw [z_rAn (by decide), K.2.1 23 (by decide) (by decide) (by decide) (by decide)]; exact X.2.2.2.2.2.2.2.2.2.2.2 q hq) (fun j hj => by rw [z_rA, pk_un (by omega)]; exact K.2.2.2 j (by omega) (by omega))
    have K3 : z_kc σ0 σ2 (76 + p) := ⟨fun k hk => (a6.1 k hk).trans (K1.1 k hk), fun k b1 b2 b3 b4 => (a6.2.1 k b1 b2 b4).trans (K1.2.1 k b1 b2 b3 b4), fun j hj => by rw [a6.2.1 27 (by decide) (by decide) (by decide)]; exact K1.2.2.1 j hj, fun j hj e => (a6.2.2.2.1 j hj).trans (K1.2.2.2 j hj e)⟩
    have ho3 : z_o (g_sa (κ2 12) 6 (upd (g_A (κ2 12) 6) p (r_A σ0 20 (76 + p)))) (r_A σ0 20) n := by
      rw [a3 12 (by decide) (by decide), va_up_at, z_sa_at, z_updd, show ∀ f g : Nat → Int32, g_sa (g_sa (κ 12) 6 f) 6 g = g_sa (κ 12) 6 g from fun f g => by unfold g_sa; simp only [bx_uu]]
      exact ho
    have eA : m_X8_possibleWinds_24 (fu + 1) h (b + 130) (nI p) wh many least (nI (v + 1) + (-1)) = if x = 0 then m_X8_possibleWinds_24 fu h2 (b + 130) (nI p) wh many least (nI v + (-1)) else m_X8_possibleWinds_24 fu h2 (b + 130) (nI p) wh (many + 1) (nI v) (nI v + (-1)) := by
      rw [m_X8_possibleWinds_24, if_neg hlow, We4 W, Option.bind_some, gn4_6 (Ww12 W), Option.bind_some, pk_m1, d1, Option.bind_some, We4 W1, Option.bind_some, Wca8 W1, z_ruleIF W1, Q1.2.1 6 (by omega), (X.2.2.2.2.2.2.2.2.2.1).2.2.2.2.2.2, r1, Option.bind_some, Wca8 W1, a1, Option.bind_some]
      try dsimp only
      rw [m_X8_possibleWinds_62, m_X8_possibleWinds_62]
    have eB : t_X12_canBe_22 (fu' + 1) σ (nI (76 + p)) 0 wh (r_A σ0 20 (76 + p)) many least (nI (v + 1) + (-1)) = if x = 0 then t_X12_canBe_22 fu' σ2 (nI (76 + p)) 0 wh (r_A σ0 20 (76 + p)) many least (nI v + (-1)) else t_X12_canBe_22 fu' σ2 (nI (76 + p)) 0 wh (r_A σ0 20 (76 + p)) (many + 1) (nI v) (nI v + (-1)) := by
      rw [t_X12_canBe_22, if_neg hlow, pk_m1, t_si_in (by omega) (by decide), Option.bind_some, a4, Option.bind_some, show t_X12_areAllSo σ1 0 = _ from a5, Option.bind_some]
      try dsimp only
      rw [t_X12_canBe_58, t_X12_canBe_58]
    rcases a0 with rfl | rfl
    · obtain ⟨r, h', κ', σ', b1, b2, b3, b4⟩ := ih v fu fu' many least κ2 σ2 h2 (by omega) (by omega) (by omega) (by omega) a2 K3 ho3
      exact ⟨r, h', κ', σ', by rw [eA, if_pos rfl]; exact b1, b2, by rw [eB, if_pos rfl]; exact b3, b4⟩
    · obtain ⟨r, h', κ', σ', b1, b2, b3, b4⟩ := ih v fu fu' (many + 1) (nI v) κ2 σ2 h2 (by omega) (by omega) (by omega) (by omega) a2 K3 ho3
      exact ⟨r, h', κ', σ', by rw [eA, if_neg (by decide)]; exact b1, b2, by rw [eB, if_neg (by decide)]; exact b3, b4⟩
theorem z_canW2 {b n po c nc p : Nat} {o : g_S} {κ : Nat → g_S} {σ : r_S} {h : q_H} (X : z_X b n po c o κ σ h) (hN : z_nt (κ 6) (r_A σ 20) nc) (hp : p < n) (wh : Int32) :
    ∃ r h' κ' σ', m_X8_possibleWinds h (b + 130) (nI p) wh = some (r, h') ∧ z_q b κ κ' h h' ∧ t_X12_canBe σ (76 + nI p) 0 60 wh = some (r, σ') ∧ z_k σ σ' ∧ r_A σ' 20 = r_A σ 20 ∧ r_A σ' 23 = r_A σ 23 ∧ r_I σ' 21 = r_I σ 21 := by
  have hn : n ≤ 8 := X.2.2.2.2.2.1.1
  have W := X.1
  obtain ⟨σ1, k1, k2, k3, k4, k5, k6⟩ := z_keeps σ
  have hpo := X.2.2.1
  obtain ⟨h1, a', c1, c2, c3, c4⟩ := z_ocopy (Ww12 W) X.2.2.2.1 (by omega)
  have ho := c4 _ n hn X.2.2.2.2.1
  have e12 : g_sa a' 6 (upd (g_A a' 6) p (r_A σ 20 (76 + p))) = a' := by
    rw [← (ho.2.2.2.2 p hp).2.2.1, z_upd_eta]
    unfold g_sa g_A
    rw [va_up_eta]
  have K : z_kc σ σ1 (76 + p) := by
    obtain ⟨f, q1, -, -⟩ := z_keepsL (s := r_A σ 20) 42 0 q_fu σ (by omega) (by show 42 < 5000; omega) rfl
    have e : σ1 = r_sa σ 27 f := Option.some.inj (k1.symm.trans q1)
    refine ⟨fun k _ => by rw [e]; rfl, fun k a1 a2 a3 a4 => by rw [e]; exact z_rAn a3, k2.2.2.1, fun j hj _ => k2.2.2.2 j hj⟩
  obtain ⟨r, h', κ', σ', b1, b2, b3, b4⟩ := z_canW X hN hp wh (60 + 1 - 0) (60 + 1) q_fu q_fu 0 (-2) (va_up κ 12 a') σ1 h1 (by omega) (by omega) (by show _ < 5000; omega) (by show _ < 5000; omega) ⟨W_12 W c2 c3, fun k hk => va_up_of (by omega), fun a ha => c3 a (by unfold f4; omega)⟩ K (by rw [va_up_at, e12]; exact ho)
  refine ⟨r, h', κ', σ', ?_, b2, ?_, b4⟩
  · unfold m_X8_possibleWinds
    rw [We4 W, Option.bind_some, We0 W, Option.bind_some, Wgr W X.2.1, Option.bind_some, ca4 (Ww12 W), c1, Option.bind_some]
    exact b1
  · unfold t_X12_canBe
    rw [z_k76, t_ai_in (by omega) (by decide), Option.bind_some, k1, Option.bind_some]
    exact b3
